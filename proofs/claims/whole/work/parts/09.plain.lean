/-! the plain programs, by program out of the bytecode -/
def f0_isFull (N : Nat) (σ : Hp) : Option (Int32 × Hp) :=
  if (σ 79 1) < (80 : Int32) then some (0, σ) else some (1, σ)
abbrev rm0_isFull : Room := { frames := 0, cells := 0, slots := 0, locals := 0 }
def f0_append (N : Nat) (x1 : Int32) (σ : Hp) : Option (Int32 × Hp) :=
  if (σ 79 1) < 0 then some (σ 79 1, σ) else if (80 : Int32) ≤ (σ 79 1) then some (σ 79 1, σ) else gd (vib (σ 79 1) 80) (some ((st (st σ 80 (σ 79 1).toNatClampNeg (vp_nar .char x1)) 79 1 (((st σ 80 (σ 79 1).toNatClampNeg (vp_nar .char x1)) 79 1) + 1)) 79 1, (st (st σ 80 (σ 79 1).toNatClampNeg (vp_nar .char x1)) 79 1 (((st σ 80 (σ 79 1).toNatClampNeg (vp_nar .char x1)) 79 1) + 1))))
abbrev rm0_append : Room := { frames := 0, cells := 0, slots := 0, locals := 0 }
def f0_sizeOf (N : Nat) (x0 : Int32) (σ : Hp) : Option (Int32 × Hp) :=
  if x0 = 97 then some (6, σ) else if x0 = 108 then some (2, σ) else if x0 = 112 then some (3, σ) else if x0 = 115 then some (5, σ) else some (0, σ)
abbrev rm0_sizeOf : Room := { frames := 0, cells := 0, slots := 0, locals := 0 }
def f0_startNumber_J36 (N : Nat) (σ : Hp) : Option (Unit × Hp) :=
  some ((), (st (st σ 79 8 ((σ 79 8) - 1)) 79 9 0))
def f0_startNumber (N : Nat) (σ : Hp) : Option (Unit × Hp) :=
  if (σ 79 6) < 0 then f0_startNumber_J36 N σ else if (80 : Int32) ≤ (σ 79 6) then f0_startNumber_J36 N σ else gd (vib (σ 79 6) 80) (f0_startNumber_J36 N (st (st σ 83 (σ 79 6).toNatClampNeg 0) 79 6 (((st σ 83 (σ 79 6).toNatClampNeg 0) 79 6) + 1)))
abbrev rm0_startNumber : Room := { frames := 0, cells := 0, slots := 0, locals := 0 }
def f0_startCommand (N : Nat) (x1 : Int32) (σ : Hp) : Option (Int32 × Hp) :=
  bd (f0_sizeOf N x1 σ) (fun r1 σ1 => if r1 = 0 then some (0, σ1) else if (σ1 79 4) < 0 then some (0, σ1) else if (σ1 79 4) < (80 : Int32) then gd (vib (σ1 79 4) 80) (gd (vib ((st σ1 81 (σ1 79 4).toNatClampNeg (vp_nar .char x1)) 79 4) 80) (bd (f0_startNumber N (st (st (st (st (st σ1 81 (σ1 79 4).toNatClampNeg (vp_nar .char x1)) 82 ((st σ1 81 (σ1 79 4).toNatClampNeg (vp_nar .char x1)) 79 4).toNatClampNeg ((st σ1 81 (σ1 79 4).toNatClampNeg (vp_nar .char x1)) 79 6)) 79 4 (((st (st σ1 81 (σ1 79 4).toNatClampNeg (vp_nar .char x1)) 82 ((st σ1 81 (σ1 79 4).toNatClampNeg (vp_nar .char x1)) 79 4).toNatClampNeg ((st σ1 81 (σ1 79 4).toNatClampNeg (vp_nar .char x1)) 79 6)) 79 4) + 1)) 79 7 0) 79 8 r1)) (fun _ σ71 => some (1, σ71)))) else some (0, σ1))
abbrev rm0_startCommand : Room := { frames := 1, cells := 0, slots := 0, locals := 20 }
def f0_addDigit (N : Nat) (x1 : Int32) (σ : Hp) : Option (Int32 × Hp) :=
  if (σ 79 9) < (3 : Int32) then if ((σ 79 6) - 1) < 0 then some (0, σ) else if ((σ 79 6) - 1) < (80 : Int32) then gd (vib ((σ 79 6) - 1) 80) (gd (vib ((σ 79 6) - 1) 80) (some (1, (st (st σ 83 ((σ 79 6) - 1).toNatClampNeg (((σ 83 ((σ 79 6) - 1).toNatClampNeg) * 10) + x1)) 79 9 (((st σ 83 ((σ 79 6) - 1).toNatClampNeg (((σ 83 ((σ 79 6) - 1).toNatClampNeg) * 10) + x1)) 79 9) + 1))))) else some (0, σ) else some (0, σ)
abbrev rm0_addDigit : Room := { frames := 0, cells := 0, slots := 0, locals := 0 }
def f0_isComplete (N : Nat) (σ : Hp) : Option (Int32 × Hp) :=
  if (σ 79 7) = 0 then if (σ 79 9) ≤ 0 then some (0, σ) else if (σ 79 8) = 0 then some (1, σ) else some (0, σ) else some (0, σ)
abbrev rm0_isComplete : Room := { frames := 0, cells := 0, slots := 0, locals := 0 }
def f0_accepts_J60 (N : Nat) (x1 : Int32) (σ : Hp) : Option (Int32 × Hp) :=
  if x1 = (59 : Int32) then bd (f0_isComplete N σ) (fun r67 σ67 => if r67 = 0 then some (0, σ67) else some (1, (st σ67 79 7 1))) else some (0, σ)
def f0_accepts_J34 (N : Nat) (x1 : Int32) (σ : Hp) : Option (Int32 × Hp) :=
  if x1 = (44 : Int32) then if (σ 79 9) ≤ 0 then f0_accepts_J60 N x1 σ else if (σ 79 8) ≤ 0 then f0_accepts_J60 N x1 σ else bd (f0_startNumber N σ) (fun _ σ55 => some (1, σ55)) else f0_accepts_J60 N x1 σ
def f0_accepts (N : Nat) (x1 : Int32) (σ : Hp) : Option (Int32 × Hp) :=
  if (σ 79 7) = 0 then if x1 < (48 : Int32) then f0_accepts_J34 N x1 σ else if (57 : Int32) < x1 then f0_accepts_J34 N x1 σ else bd (f0_addDigit N (x1 - 48) σ) (fun r30 σ30 => gd (okB r30) (some (r30, σ30))) else bd (f0_startCommand N x1 σ) (fun r9 σ9 => gd (okB r9) (some (r9, σ9)))
abbrev rm0_accepts : Room := { frames := 2, cells := 0, slots := 0, locals := 42 }
def f0_parseAndEmpty_B27 (N : Nat) (x1 : Int32) (K27 : Hp → Option (Int32 × Hp)) (r27 : Int32 → Hp → Option (Int32 × Hp)) (x2 : Int32) (σ : Hp) : Option (Int32 × Hp) :=
  if x1 ≤ x2 then K27 σ else if (80 : Int32) ≤ x2 then K27 σ else gd (vib x2 80) (bd (f0_accepts N (σ 80 x2.toNatClampNeg) σ) (fun r45 σ45 => if r45 = 0 then some (x2, σ45) else r27 (x2 + 1) σ45))
def f0_parseAndEmpty_L27 (N : Nat) (x1 : Int32) (K27 : Hp → Option (Int32 × Hp)) (n : Nat) : Int32 → Hp → Option (Int32 × Hp) :=
  it (fun _ _ => none) (f0_parseAndEmpty_B27 N x1 K27) n
def f0_parseAndEmpty (N : Nat) (σ : Hp) : Option (Int32 × Hp) :=
  f0_parseAndEmpty_L27 N (σ 79 1) (fun σL27 => bd (f0_isComplete N σL27) (fun r60 σ60 => if r60 = 0 then some (σ 79 1, σ60) else some ((-1), σ60))) N 0 (st (st (st (st σ 79 1 0) 79 4 0) 79 6 0) 79 7 1)
abbrev rm0_parseAndEmpty : Room := { frames := 3, cells := 0, slots := 0, locals := 63 }
def f0_commandCount (N : Nat) (σ : Hp) : Option (Int32 × Hp) :=
  some (σ 79 4, σ)
abbrev rm0_commandCount : Room := { frames := 0, cells := 0, slots := 0, locals := 0 }
def f0_isCommand (N : Nat) (x0 : Int32) (σ : Hp) : Option (Int32 × Hp) :=
  if x0 < 0 then some (0, σ) else if (80 : Int32) ≤ x0 then some (0, σ) else some (1, σ)
abbrev rm0_isCommand : Room := { frames := 0, cells := 0, slots := 0, locals := 0 }
def f0_letterOf (N : Nat) (x1 : Int32) (σ : Hp) : Option (Int32 × Hp) :=
  bd (f0_isCommand N x1 σ) (fun r1 σ1 => if r1 = 0 then some (32, σ1) else gd (vib x1 80) (gd (okC (σ1 81 x1.toNatClampNeg)) (some (σ1 81 x1.toNatClampNeg, σ1))))
abbrev rm0_letterOf : Room := { frames := 1, cells := 0, slots := 0, locals := 20 }
def f0_numberOf_J19 (N : Nat) (x1 : Int32) (x2 : Int32) (y0 : Int32) (σ : Hp) : Option (Int32 × Hp) :=
  if y0 < 0 then some (0, σ) else if (80 : Int32) ≤ y0 then some (0, σ) else gd (vib y0 80) (some (σ 83 y0.toNatClampNeg, σ))
def f0_numberOf (N : Nat) (x1 : Int32) (x2 : Int32) (σ : Hp) : Option (Int32 × Hp) :=
  bd (f0_isCommand N x1 σ) (fun r1 σ1 => if r1 = 0 then f0_numberOf_J19 N x1 x2 (-1) σ1 else gd (vib x1 80) (f0_numberOf_J19 N x1 x2 ((σ1 82 x1.toNatClampNeg) + x2) σ1))
abbrev rm0_numberOf : Room := { frames := 1, cells := 0, slots := 0, locals := 20 }
def f1_copyFrom_B2 (N : Nat) (b : Nat) (o : Nat) (K2 : Hp → Option (Unit × Hp)) (r2 : Int32 → Hp → Option (Unit × Hp)) (x2 : Int32) (σ : Hp) : Option (Unit × Hp) :=
  if (12 : Int32) ≤ x2 then K2 σ else gd (vib x2 12) (gd (vib x2 12) (r2 (x2 + 1) (st σ (b + 1) x2.toNatClampNeg (vp_nar .boolean (σ (o + 1) x2.toNatClampNeg)))))
def f1_copyFrom_L2 (N : Nat) (b : Nat) (o : Nat) (K2 : Hp → Option (Unit × Hp)) (n : Nat) : Int32 → Hp → Option (Unit × Hp) :=
  it (fun _ _ => none) (f1_copyFrom_B2 N b o K2) n
def f1_copyFrom_B28 (N : Nat) (b : Nat) (o : Nat) (K28 : Hp → Option (Unit × Hp)) (r28 : Int32 → Hp → Option (Unit × Hp)) (x2 : Int32) (σ : Hp) : Option (Unit × Hp) :=
  if (96 : Int32) ≤ x2 then K28 σ else gd (vib x2 96) (gd (vib x2 96) (r28 (x2 + 1) (st σ (b + 2) x2.toNatClampNeg (σ (o + 2) x2.toNatClampNeg))))
def f1_copyFrom_L28 (N : Nat) (b : Nat) (o : Nat) (K28 : Hp → Option (Unit × Hp)) (n : Nat) : Int32 → Hp → Option (Unit × Hp) :=
  it (fun _ _ => none) (f1_copyFrom_B28 N b o K28) n
def f1_copyFrom_B54 (N : Nat) (b : Nat) (o : Nat) (K54 : Hp → Option (Unit × Hp)) (r54 : Int32 → Hp → Option (Unit × Hp)) (x2 : Int32) (σ : Hp) : Option (Unit × Hp) :=
  if (8 : Int32) ≤ x2 then K54 σ else gd (vib x2 8) (gd (vib x2 8) (r54 (x2 + 1) (st σ (b + 3) x2.toNatClampNeg (vp_nar .boolean (σ (o + 3) x2.toNatClampNeg)))))
def f1_copyFrom_L54 (N : Nat) (b : Nat) (o : Nat) (K54 : Hp → Option (Unit × Hp)) (n : Nat) : Int32 → Hp → Option (Unit × Hp) :=
  it (fun _ _ => none) (f1_copyFrom_B54 N b o K54) n
def f1_copyFrom_B80 (N : Nat) (b : Nat) (o : Nat) (K80 : Hp → Option (Unit × Hp)) (r80 : Int32 → Hp → Option (Unit × Hp)) (x2 : Int32) (σ : Hp) : Option (Unit × Hp) :=
  if (48 : Int32) ≤ x2 then K80 σ else gd (vib x2 48) (gd (vib x2 48) (r80 (x2 + 1) (st σ (b + 4) x2.toNatClampNeg (σ (o + 4) x2.toNatClampNeg))))
def f1_copyFrom_L80 (N : Nat) (b : Nat) (o : Nat) (K80 : Hp → Option (Unit × Hp)) (n : Nat) : Int32 → Hp → Option (Unit × Hp) :=
  it (fun _ _ => none) (f1_copyFrom_B80 N b o K80) n
def f1_copyFrom (N : Nat) (b : Nat) (o : Nat) (σ : Hp) : Option (Unit × Hp) :=
  f1_copyFrom_L2 N b o (fun σL2 => f1_copyFrom_L28 N b o (fun σL28 => f1_copyFrom_L54 N b o (fun σL54 => f1_copyFrom_L80 N b o (fun σL80 => some ((), (st (st σL80 b 4 (σL80 o 4)) b 5 ((st σL80 b 4 (σL80 o 4)) o 5)))) N 0 σL54) N 0 σL28) N 0 σL2) N 0 σ
abbrev rm1_copyFrom : Room := { frames := 0, cells := 0, slots := 0, locals := 0 }
def f5_isStoryIndex (N : Nat) (x0 : Int32) (σ : Hp) : Option (Int32 × Hp) :=
  if x0 < 0 then some (0, σ) else if (12 : Int32) ≤ x0 then some (0, σ) else some (1, σ)
abbrev rm5_isStoryIndex : Room := { frames := 0, cells := 0, slots := 0, locals := 0 }
def f1_hasStory (N : Nat) (b : Nat) (x1 : Int32) (σ : Hp) : Option (Int32 × Hp) :=
  bd (f5_isStoryIndex N x1 σ) (fun r1 σ1 => if r1 = 0 then some (0, σ1) else gd (vib x1 12) (if (σ1 (b + 1) x1.toNatClampNeg) = 0 then some (0, σ1) else some (1, σ1)))
abbrev rm1_hasStory : Room := { frames := 1, cells := 0, slots := 0, locals := 20 }
def f5_isAdvertisementIndex (N : Nat) (x0 : Int32) (σ : Hp) : Option (Int32 × Hp) :=
  if x0 < 0 then some (0, σ) else if (8 : Int32) ≤ x0 then some (0, σ) else some (1, σ)
abbrev rm5_isAdvertisementIndex : Room := { frames := 0, cells := 0, slots := 0, locals := 0 }
def f1_hasAdvertisement (N : Nat) (b : Nat) (x1 : Int32) (σ : Hp) : Option (Int32 × Hp) :=
  bd (f5_isAdvertisementIndex N x1 σ) (fun r1 σ1 => if r1 = 0 then some (0, σ1) else gd (vib x1 8) (if (σ1 (b + 3) x1.toNatClampNeg) = 0 then some (0, σ1) else some (1, σ1)))
abbrev rm1_hasAdvertisement : Room := { frames := 1, cells := 0, slots := 0, locals := 20 }
def f1_storyNumber (N : Nat) (b : Nat) (x1 : Int32) (x2 : Int32) (σ : Hp) : Option (Int32 × Hp) :=
  if x1 < 0 then some (0, σ) else if (12 : Int32) ≤ x1 then some (0, σ) else if x2 < 0 then some (0, σ) else if x2 < (8 : Int32) then gd (vib ((x1 * 8) + x2) 96) (some (σ (b + 2) ((x1 * 8) + x2).toNatClampNeg, σ)) else some (0, σ)
abbrev rm1_storyNumber : Room := { frames := 0, cells := 0, slots := 0, locals := 0 }
def f1_advertisementNumber (N : Nat) (b : Nat) (x1 : Int32) (x2 : Int32) (σ : Hp) : Option (Int32 × Hp) :=
  bd (f5_isAdvertisementIndex N x1 σ) (fun r1 σ1 => if r1 = 0 then some (0, σ1) else if x2 < 0 then some (0, σ1) else if x2 < (6 : Int32) then gd (vib ((x1 * 6) + x2) 48) (some (σ1 (b + 4) ((x1 * 6) + x2).toNatClampNeg, σ1)) else some (0, σ1))
abbrev rm1_advertisementNumber : Room := { frames := 1, cells := 0, slots := 0, locals := 20 }
def f1_isLate (N : Nat) (b : Nat) (x1 : Int32) (σ : Hp) : Option (Int32 × Hp) :=
  bd (f1_storyNumber N b x1 7 σ) (fun r4 σ4 => if r4 = 0 then some (0, σ4) else some (1, σ4))
abbrev rm1_isLate : Room := { frames := 1, cells := 0, slots := 0, locals := 22 }
def f1_headRows (N : Nat) (b : Nat) (x1 : Int32) (σ : Hp) : Option (Int32 × Hp) :=
  bd (f1_storyNumber N b x1 2 σ) (fun r3 σ3 => bd (f1_storyNumber N b x1 5 σ3) (fun r9 σ9 => bd (f1_storyNumber N b x1 6 σ9) (fun r17 σ17 => some ((r3 + r9) + r17, σ17))))
abbrev rm1_headRows : Room := { frames := 1, cells := 0, slots := 0, locals := 22 }
def f1_storyCount_J22 (N : Nat) (b : Nat) (K4 : Int32 → Hp → Option (Int32 × Hp)) (r4 : Int32 → Int32 → Hp → Option (Int32 × Hp)) (x1 : Int32) (x2 : Int32) (σ : Hp) : Option (Int32 × Hp) :=
  r4 x1 (x2 + 1) σ
def f1_storyCount_B4 (N : Nat) (b : Nat) (K4 : Int32 → Hp → Option (Int32 × Hp)) (r4 : Int32 → Int32 → Hp → Option (Int32 × Hp)) (x1 : Int32) (x2 : Int32) (σ : Hp) : Option (Int32 × Hp) :=
  if (12 : Int32) ≤ x2 then K4 x1 σ else gd (vib x2 12) (if (σ (b + 1) x2.toNatClampNeg) = 0 then f1_storyCount_J22 N b K4 r4 x1 x2 σ else f1_storyCount_J22 N b K4 r4 (x1 + 1) x2 σ)
def f1_storyCount_L4 (N : Nat) (b : Nat) (K4 : Int32 → Hp → Option (Int32 × Hp)) (n : Nat) : Int32 → Int32 → Hp → Option (Int32 × Hp) :=
  it (fun _ _ _ => none) (f1_storyCount_B4 N b K4) n
def f1_storyCount (N : Nat) (b : Nat) (σ : Hp) : Option (Int32 × Hp) :=
  f1_storyCount_L4 N b (fun x1_4 σL4 => some (x1_4, σL4)) N 0 0 σ
abbrev rm1_storyCount : Room := { frames := 0, cells := 0, slots := 0, locals := 0 }
def f1_advertisementCount_J22 (N : Nat) (b : Nat) (K4 : Int32 → Hp → Option (Int32 × Hp)) (r4 : Int32 → Int32 → Hp → Option (Int32 × Hp)) (x1 : Int32) (x2 : Int32) (σ : Hp) : Option (Int32 × Hp) :=
  r4 x1 (x2 + 1) σ
def f1_advertisementCount_B4 (N : Nat) (b : Nat) (K4 : Int32 → Hp → Option (Int32 × Hp)) (r4 : Int32 → Int32 → Hp → Option (Int32 × Hp)) (x1 : Int32) (x2 : Int32) (σ : Hp) : Option (Int32 × Hp) :=
  if (8 : Int32) ≤ x2 then K4 x1 σ else gd (vib x2 8) (if (σ (b + 3) x2.toNatClampNeg) = 0 then f1_advertisementCount_J22 N b K4 r4 x1 x2 σ else f1_advertisementCount_J22 N b K4 r4 (x1 + 1) x2 σ)
def f1_advertisementCount_L4 (N : Nat) (b : Nat) (K4 : Int32 → Hp → Option (Int32 × Hp)) (n : Nat) : Int32 → Int32 → Hp → Option (Int32 × Hp) :=
  it (fun _ _ _ => none) (f1_advertisementCount_B4 N b K4) n
def f1_advertisementCount (N : Nat) (b : Nat) (σ : Hp) : Option (Int32 × Hp) :=
  f1_advertisementCount_L4 N b (fun x1_4 σL4 => some (x1_4, σL4)) N 0 0 σ
abbrev rm1_advertisementCount : Room := { frames := 0, cells := 0, slots := 0, locals := 0 }
def f1_cellsOf (N : Nat) (b : Nat) (x1 : Int32) (σ : Hp) : Option (Int32 × Hp) :=
  bd (f1_advertisementNumber N b x1 3 σ) (fun r3 σ3 => bd (f1_advertisementNumber N b x1 4 σ3) (fun r9 σ9 => some (r3 * r9, σ9)))
abbrev rm1_cellsOf : Room := { frames := 2, cells := 0, slots := 0, locals := 42 }
def f1_priceOfCells (N : Nat) (b : Nat) (x1 : Int32) (σ : Hp) : Option (Int32 × Hp) :=
  bd (f1_cellsOf N b x1 σ) (fun r2 σ2 => bd (f1_advertisementNumber N b x1 5 σ2) (fun r8 σ8 => some (r2 * r8, σ8)))
abbrev rm1_priceOfCells : Room := { frames := 3, cells := 0, slots := 0, locals := 63 }
def f1_cellsOfAdvertisements_J27 (N : Nat) (b : Nat) (K4 : Int32 → Hp → Option (Int32 × Hp)) (r4 : Int32 → Int32 → Hp → Option (Int32 × Hp)) (x1 : Int32) (x2 : Int32) (σ : Hp) : Option (Int32 × Hp) :=
  r4 x1 (x2 + 1) σ
def f1_cellsOfAdvertisements_B4 (N : Nat) (b : Nat) (K4 : Int32 → Hp → Option (Int32 × Hp)) (r4 : Int32 → Int32 → Hp → Option (Int32 × Hp)) (x1 : Int32) (x2 : Int32) (σ : Hp) : Option (Int32 × Hp) :=
  if (8 : Int32) ≤ x2 then K4 x1 σ else gd (vib x2 8) (if (σ (b + 3) x2.toNatClampNeg) = 0 then f1_cellsOfAdvertisements_J27 N b K4 r4 x1 x2 σ else bd (f1_cellsOf N b x2 σ) (fun r22 σ22 => f1_cellsOfAdvertisements_J27 N b K4 r4 (x1 + r22) x2 σ22))
def f1_cellsOfAdvertisements_L4 (N : Nat) (b : Nat) (K4 : Int32 → Hp → Option (Int32 × Hp)) (n : Nat) : Int32 → Int32 → Hp → Option (Int32 × Hp) :=
  it (fun _ _ _ => none) (f1_cellsOfAdvertisements_B4 N b K4) n
def f1_cellsOfAdvertisements (N : Nat) (b : Nat) (σ : Hp) : Option (Int32 × Hp) :=
  f1_cellsOfAdvertisements_L4 N b (fun x1_4 σL4 => some (x1_4, σL4)) N 0 0 σ
abbrev rm1_cellsOfAdvertisements : Room := { frames := 3, cells := 0, slots := 0, locals := 63 }
def f1_allPrices_J27 (N : Nat) (b : Nat) (K4 : Int32 → Hp → Option (Int32 × Hp)) (r4 : Int32 → Int32 → Hp → Option (Int32 × Hp)) (x1 : Int32) (x2 : Int32) (σ : Hp) : Option (Int32 × Hp) :=
  r4 x1 (x2 + 1) σ
def f1_allPrices_B4 (N : Nat) (b : Nat) (K4 : Int32 → Hp → Option (Int32 × Hp)) (r4 : Int32 → Int32 → Hp → Option (Int32 × Hp)) (x1 : Int32) (x2 : Int32) (σ : Hp) : Option (Int32 × Hp) :=
  if (8 : Int32) ≤ x2 then K4 x1 σ else gd (vib x2 8) (if (σ (b + 3) x2.toNatClampNeg) = 0 then f1_allPrices_J27 N b K4 r4 x1 x2 σ else bd (f1_priceOfCells N b x2 σ) (fun r22 σ22 => f1_allPrices_J27 N b K4 r4 (x1 + r22) x2 σ22))
def f1_allPrices_L4 (N : Nat) (b : Nat) (K4 : Int32 → Hp → Option (Int32 × Hp)) (n : Nat) : Int32 → Int32 → Hp → Option (Int32 × Hp) :=
  it (fun _ _ _ => none) (f1_allPrices_B4 N b K4) n
def f1_allPrices (N : Nat) (b : Nat) (σ : Hp) : Option (Int32 × Hp) :=
  f1_allPrices_L4 N b (fun x1_4 σL4 => some (x1_4, σL4)) N 0 0 σ
abbrev rm1_allPrices : Room := { frames := 4, cells := 0, slots := 0, locals := 84 }
def f5_isPage (N : Nat) (x0 : Int32) (σ : Hp) : Option (Int32 × Hp) :=
  if x0 < 0 then some (0, σ) else if (4 : Int32) ≤ x0 then some (0, σ) else some (1, σ)
abbrev rm5_isPage : Room := { frames := 0, cells := 0, slots := 0, locals := 0 }
def f5_isInRange (N : Nat) (x0 : Int32) (x1 : Int32) (σ : Hp) : Option (Int32 × Hp) :=
  if x0 < 0 then some (0, σ) else if (5 : Int32) ≤ x0 then some (0, σ) else gd (vib x0 5) (if x1 < (lst5 x0.toNatClampNeg) then some (0, σ) else gd (vib x0 5) (if (gst5 x0.toNatClampNeg) < x1 then some (0, σ) else some (1, σ)))
abbrev rm5_isInRange : Room := { frames := 0, cells := 0, slots := 0, locals := 0 }
def f1_faultOfStory (N : Nat) (b : Nat) (x1 : Int32) (x2 : Int32) (x3 : Int32) (x4 : Int32) (x5 : Int32) (σ : Hp) : Option (Int32 × Hp) :=
  bd (f5_isPage N x1 σ) (fun r1 σ1 => if r1 = 0 then some (1, σ1) else bd (f5_isInRange N 1 x2 σ1) (fun r11 σ11 => if r11 = 0 then some (2, σ11) else bd (f5_isInRange N 2 x3 σ11) (fun r19 σ19 => if r19 = 0 then some (2, σ19) else bd (f5_isInRange N 3 x4 σ19) (fun r28 σ28 => if r28 = 0 then some (2, σ28) else bd (f5_isInRange N 4 x5 σ28) (fun r37 σ37 => if r37 = 0 then some (2, σ37) else if (σ37 b 4) < (12 : Int32) then some (0, σ37) else some (3, σ37))))))
abbrev rm1_faultOfStory : Room := { frames := 1, cells := 0, slots := 0, locals := 21 }
def f1_overlap (N : Nat) (x0 : Int32) (x1 : Int32) (x2 : Int32) (x3 : Int32) (σ : Hp) : Option (Int32 × Hp) :=
  if (x2 + x3) ≤ x0 then some (0, σ) else if (x0 + x1) ≤ x2 then some (0, σ) else some (1, σ)
abbrev rm1_overlap : Room := { frames := 0, cells := 0, slots := 0, locals := 0 }
def f1_isTaken_J79 (N : Nat) (b : Nat) (x1 : Int32) (x2 : Int32) (x3 : Int32) (x4 : Int32) (x5 : Int32) (K3 : Hp → Option (Int32 × Hp)) (r3 : Int32 → Hp → Option (Int32 × Hp)) (x6 : Int32) (σ : Hp) : Option (Int32 × Hp) :=
  r3 (x6 + 1) σ
def f1_isTaken_B3 (N : Nat) (b : Nat) (x1 : Int32) (x2 : Int32) (x3 : Int32) (x4 : Int32) (x5 : Int32) (K3 : Hp → Option (Int32 × Hp)) (r3 : Int32 → Hp → Option (Int32 × Hp)) (x6 : Int32) (σ : Hp) : Option (Int32 × Hp) :=
  if (8 : Int32) ≤ x6 then K3 σ else gd (vib x6 8) (if (σ (b + 3) x6.toNatClampNeg) = 0 then f1_isTaken_J79 N b x1 x2 x3 x4 x5 K3 r3 x6 σ else bd (f1_advertisementNumber N b x6 0 σ) (fun r24 σ24 => if r24 = x1 then bd (f1_advertisementNumber N b x6 1 σ24) (fun r38 σ38 => bd (f1_advertisementNumber N b x6 3 σ38) (fun r45 σ45 => bd (f1_overlap N x2 x4 r38 r45 σ45) (fun r48 σ48 => if r48 = 0 then f1_isTaken_J79 N b x1 x2 x3 x4 x5 K3 r3 x6 σ48 else bd (f1_advertisementNumber N b x6 2 σ48) (fun r61 σ61 => bd (f1_advertisementNumber N b x6 4 σ61) (fun r68 σ68 => bd (f1_overlap N x3 x5 r61 r68 σ68) (fun r71 σ71 => if r71 = 0 then f1_isTaken_J79 N b x1 x2 x3 x4 x5 K3 r3 x6 σ71 else some (1, σ71))))))) else f1_isTaken_J79 N b x1 x2 x3 x4 x5 K3 r3 x6 σ24))
def f1_isTaken_L3 (N : Nat) (b : Nat) (x1 : Int32) (x2 : Int32) (x3 : Int32) (x4 : Int32) (x5 : Int32) (K3 : Hp → Option (Int32 × Hp)) (n : Nat) : Int32 → Hp → Option (Int32 × Hp) :=
  it (fun _ _ => none) (f1_isTaken_B3 N b x1 x2 x3 x4 x5 K3) n
def f1_isTaken (N : Nat) (b : Nat) (x1 : Int32) (x2 : Int32) (x3 : Int32) (x4 : Int32) (x5 : Int32) (σ : Hp) : Option (Int32 × Hp) :=
  f1_isTaken_L3 N b x1 x2 x3 x4 x5 (fun σL3 => some (0, σL3)) N 0 σ
abbrev rm1_isTaken : Room := { frames := 2, cells := 0, slots := 0, locals := 42 }
def f1_faultOfAdvertisement (N : Nat) (b : Nat) (x1 : Int32) (x2 : Int32) (x3 : Int32) (x4 : Int32) (x5 : Int32) (x6 : Int32) (σ : Hp) : Option (Int32 × Hp) :=
  bd (f5_isPage N x1 σ) (fun r1 σ1 => if r1 = 0 then some (1, σ1) else if x2 < 0 then some (1, σ1) else if (5 : Int32) ≤ x2 then some (1, σ1) else if x3 < 0 then some (1, σ1) else if (24 : Int32) ≤ x3 then some (1, σ1) else if x4 < (1 : Int32) then some (1, σ1) else if (5 - x2) < x4 then some (1, σ1) else if x5 < (1 : Int32) then some (1, σ1) else if x5 ≤ (24 - x3) then if x6 < (1 : Int32) then some (2, σ1) else if x6 ≤ (999 : Int32) then if (8 : Int32) ≤ (σ1 b 5) then some (3, σ1) else bd (f1_isTaken N b x1 x2 x3 x4 x5 σ1) (fun r90 σ90 => if r90 = 0 then some (0, σ90) else some (3, σ90)) else some (2, σ1) else some (1, σ1))
abbrev rm1_faultOfAdvertisement : Room := { frames := 3, cells := 0, slots := 0, locals := 68 }
def f1_faultOfPhoto (N : Nat) (b : Nat) (x1 : Int32) (x2 : Int32) (x3 : Int32) (σ : Hp) : Option (Int32 × Hp) :=
  bd (f1_hasStory N b x1 σ) (fun r2 σ2 => if r2 = 0 then some (1, σ2) else if x2 = 0 then if x3 = 0 then some (0, σ2) else some (2, σ2) else if x2 < (2 : Int32) then some (2, σ2) else if (8 : Int32) < x2 then some (2, σ2) else if x3 < 0 then some (2, σ2) else if x3 ≤ (2 : Int32) then some (0, σ2) else some (2, σ2))
abbrev rm1_faultOfPhoto : Room := { frames := 2, cells := 0, slots := 0, locals := 41 }
def f1_putStoryNumber (N : Nat) (b : Nat) (x1 : Int32) (x2 : Int32) (x3 : Int32) (σ : Hp) : Option (Unit × Hp) :=
  bd (f5_isStoryIndex N x1 σ) (fun r1 σ1 => if r1 = 0 then some ((), σ1) else if x2 < 0 then some ((), σ1) else if (8 : Int32) ≤ x2 then some ((), σ1) else gd (vib ((x1 * 8) + x2) 96) (some ((), (st σ1 (b + 2) ((x1 * 8) + x2).toNatClampNeg x3))))
abbrev rm1_putStoryNumber : Room := { frames := 1, cells := 0, slots := 0, locals := 20 }
def f1_putPhoto (N : Nat) (b : Nat) (x1 : Int32) (x2 : Int32) (x3 : Int32) (σ : Hp) : Option (Unit × Hp) :=
  bd (f1_putStoryNumber N b x1 5 x2 σ) (fun _ σ4 => bd (f1_putStoryNumber N b x1 6 x3 σ4) (fun _ σ12 => some ((), σ12)))
abbrev rm1_putPhoto : Room := { frames := 2, cells := 0, slots := 0, locals := 43 }
def f1_putLate_J13 (N : Nat) (b : Nat) (x1 : Int32) (x2 : Int32) (y0 : Int32) (y1 : Int32) (y2 : Int32) (σ : Hp) : Option (Unit × Hp) :=
  bd (f1_putStoryNumber N b y2 y1 y0 σ) (fun _ σ13 => some ((), σ13))
def f1_putLate (N : Nat) (b : Nat) (x1 : Int32) (x2 : Int32) (σ : Hp) : Option (Unit × Hp) :=
  if x2 = 0 then f1_putLate_J13 N b x1 x2 0 7 x1 σ else f1_putLate_J13 N b x1 x2 1 7 x1 σ
abbrev rm1_putLate : Room := { frames := 2, cells := 0, slots := 0, locals := 43 }
def f1_putStory (N : Nat) (b : Nat) (x1 : Int32) (x2 : Int32) (x3 : Int32) (x4 : Int32) (x5 : Int32) (σ : Hp) : Option (Int32 × Hp) :=
  bd (f5_isStoryIndex N (σ b 4) σ) (fun r8 σ8 => if r8 = 0 then some ((-1), σ8) else gd (vib (σ b 4) 12) (bd (f1_putStoryNumber N b (σ b 4) 0 x1 (st (st σ8 b 4 ((σ b 4) + 1)) (b + 1) (σ b 4).toNatClampNeg (vp_nar .boolean 1))) (fun _ σ37 => bd (f1_putStoryNumber N b (σ b 4) 1 x2 σ37) (fun _ σ45 => bd (f1_putStoryNumber N b (σ b 4) 2 x3 σ45) (fun _ σ53 => bd (f1_putStoryNumber N b (σ b 4) 3 x4 σ53) (fun _ σ62 => bd (f1_putStoryNumber N b (σ b 4) 4 x5 σ62) (fun _ σ71 => bd (f1_putPhoto N b (σ b 4) 0 0 σ71) (fun _ σ79 => bd (f1_putLate N b (σ b 4) 0 σ79) (fun _ σ86 => some (σ b 4, σ86))))))))))
abbrev rm1_putStory : Room := { frames := 3, cells := 0, slots := 0, locals := 66 }
def f1_putAdvertisement (N : Nat) (b : Nat) (x1 : Int32) (x2 : Int32) (x3 : Int32) (x4 : Int32) (x5 : Int32) (x6 : Int32) (σ : Hp) : Option (Int32 × Hp) :=
  bd (f5_isAdvertisementIndex N (σ b 5) σ) (fun r8 σ8 => if r8 = 0 then some ((-1), σ8) else gd (vib (σ b 5) 8) (gd (vib (((σ b 5) * 6) + 0) 48) (gd (vib (((σ b 5) * 6) + 1) 48) (gd (vib (((σ b 5) * 6) + 2) 48) (gd (vib (((σ b 5) * 6) + 3) 48) (gd (vib (((σ b 5) * 6) + 4) 48) (gd (vib (((σ b 5) * 6) + 5) 48) (some (σ b 5, (st (st (st (st (st (st (st (st σ8 b 5 ((σ b 5) + 1)) (b + 3) (σ b 5).toNatClampNeg (vp_nar .boolean 1)) (b + 4) (((σ b 5) * 6) + 0).toNatClampNeg x1) (b + 4) (((σ b 5) * 6) + 1).toNatClampNeg x2) (b + 4) (((σ b 5) * 6) + 2).toNatClampNeg x3) (b + 4) (((σ b 5) * 6) + 3).toNatClampNeg x4) (b + 4) (((σ b 5) * 6) + 4).toNatClampNeg x5) (b + 4) (((σ b 5) * 6) + 5).toNatClampNeg x6))))))))))
abbrev rm1_putAdvertisement : Room := { frames := 1, cells := 0, slots := 0, locals := 20 }
def f1_dropStory (N : Nat) (b : Nat) (x1 : Int32) (σ : Hp) : Option (Unit × Hp) :=
  bd (f5_isStoryIndex N x1 σ) (fun r1 σ1 => if r1 = 0 then some ((), σ1) else gd (vib x1 12) (some ((), (st σ1 (b + 1) x1.toNatClampNeg (vp_nar .boolean 0)))))
abbrev rm1_dropStory : Room := { frames := 1, cells := 0, slots := 0, locals := 20 }
def f1_dropAdvertisement (N : Nat) (b : Nat) (x1 : Int32) (σ : Hp) : Option (Unit × Hp) :=
  bd (f5_isAdvertisementIndex N x1 σ) (fun r1 σ1 => if r1 = 0 then some ((), σ1) else gd (vib x1 8) (some ((), (st σ1 (b + 3) x1.toNatClampNeg (vp_nar .boolean 0)))))
abbrev rm1_dropAdvertisement : Room := { frames := 1, cells := 0, slots := 0, locals := 20 }
def f2_editionAt (N : Nat) (x1 : Int32) (σ : Hp) : Option (Option Nat × Hp) :=
  if x1 < 0 then some (none, σ) else if (8 : Int32) ≤ x1 then some (none, σ) else gd (vib x1 8) (some (some (16 + 5 * x1.toNatClampNeg), σ))
abbrev rm2_editionAt : Room := { frames := 0, cells := 0, slots := 0, locals := 0 }
def f2_remember_J18 (N : Nat) (o : Nat) (σ : Hp) : Option (Unit × Hp) :=
  gd (!decide ((8 : Int32) = 0)) (some ((), (st (st σ 74 1 (((σ 74 1) + 1) - ((σ 74 1) + 1) / (8 : Int32) * (8 : Int32))) 74 2 (if (8 : Int32) < (((st σ 74 1 (((σ 74 1) + 1) - ((σ 74 1) + 1) / (8 : Int32) * (8 : Int32))) 74 2) + 1) then (8 : Int32) else (((st σ 74 1 (((σ 74 1) + 1) - ((σ 74 1) + 1) / (8 : Int32) * (8 : Int32))) 74 2) + 1)))))
def f2_remember (N : Nat) (o : Nat) (σ : Hp) : Option (Unit × Hp) :=
  bd (f2_editionAt N (σ 74 1) σ) (fun q5 σ5 => match q5 with | none => f2_remember_J18 N o σ5 | some b5 => gd (isEb b5) (bd (f1_copyFrom N b5 o σ5) (fun _ σ15 => f2_remember_J18 N o σ15)))
abbrev rm2_remember : Room := { frames := 1, cells := 0, slots := 0, locals := 22 }
def f2_isEmpty (N : Nat) (σ : Hp) : Option (Int32 × Hp) :=
  if (σ 74 2) = 0 then some (1, σ) else some (0, σ)
abbrev rm2_isEmpty : Room := { frames := 0, cells := 0, slots := 0, locals := 0 }
def f2_takeBack (N : Nat) (o : Nat) (σ : Hp) : Option (Int32 × Hp) :=
  gd (!decide ((8 : Int32) = 0)) (bd (f2_editionAt N ((st (st σ 74 1 ((((σ 74 1) + 8) - 1) - (((σ 74 1) + 8) - 1) / (8 : Int32) * (8 : Int32))) 74 2 (((st σ 74 1 ((((σ 74 1) + 8) - 1) - (((σ 74 1) + 8) - 1) / (8 : Int32) * (8 : Int32))) 74 2) - 1)) 74 1) (st (st σ 74 1 ((((σ 74 1) + 8) - 1) - (((σ 74 1) + 8) - 1) / (8 : Int32) * (8 : Int32))) 74 2 (((st σ 74 1 ((((σ 74 1) + 8) - 1) - (((σ 74 1) + 8) - 1) / (8 : Int32) * (8 : Int32))) 74 2) - 1))) (fun q31 σ31 => match q31 with | none => some (σ31 74 2, σ31) | some b31 => gd (isEb b31) (bd (f1_copyFrom N o b31 σ31) (fun _ σ41 => some (σ41 74 2, σ41)))))
abbrev rm2_takeBack : Room := { frames := 1, cells := 0, slots := 0, locals := 22 }
def f2_forget (N : Nat) (σ : Hp) : Option (Unit × Hp) :=
  some ((), (st σ 74 2 0))
abbrev rm2_forget : Room := { frames := 0, cells := 0, slots := 0, locals := 0 }
def f3_clear_B2 (N : Nat) (g : Nat) (K2 : Hp → Option (Unit × Hp)) (r2 : Int32 → Hp → Option (Unit × Hp)) (x1 : Int32) (σ : Hp) : Option (Unit × Hp) :=
  if (480 : Int32) ≤ x1 then K2 σ else gd (vib x1 480) (gd (vib x1 480) (r2 (x1 + 1) (st (st σ (g + 1) x1.toNatClampNeg 0) (g + 2) x1.toNatClampNeg (-1))))
def f3_clear_L2 (N : Nat) (g : Nat) (K2 : Hp → Option (Unit × Hp)) (n : Nat) : Int32 → Hp → Option (Unit × Hp) :=
  it (fun _ _ => none) (f3_clear_B2 N g K2) n
def f3_clear_B31 (N : Nat) (g : Nat) (K31 : Hp → Option (Unit × Hp)) (r31 : Int32 → Hp → Option (Unit × Hp)) (x1 : Int32) (σ : Hp) : Option (Unit × Hp) :=
  if (12 : Int32) ≤ x1 then K31 σ else gd (vib x1 12) (gd (vib x1 12) (gd (vib x1 12) (r31 (x1 + 1) (st (st (st σ (g + 5) x1.toNatClampNeg 0) (g + 7) x1.toNatClampNeg 0) (g + 8) x1.toNatClampNeg 0))))
def f3_clear_L31 (N : Nat) (g : Nat) (K31 : Hp → Option (Unit × Hp)) (n : Nat) : Int32 → Hp → Option (Unit × Hp) :=
  it (fun _ _ => none) (f3_clear_B31 N g K31) n
def f3_clear (N : Nat) (g : Nat) (σ : Hp) : Option (Unit × Hp) :=
  f3_clear_L2 N g (fun σL2 => f3_clear_L31 N g (fun σL31 => some ((), σL31)) N 0 σL2) N 0 σ
abbrev rm3_clear : Room := { frames := 0, cells := 0, slots := 0, locals := 0 }
def f5_cellIndex (N : Nat) (x0 : Int32) (x1 : Int32) (x2 : Int32) (σ : Hp) : Option (Int32 × Hp) :=
  some (((x0 * 120) + (x2 * 5)) + x1, σ)
abbrev rm5_cellIndex : Room := { frames := 0, cells := 0, slots := 0, locals := 0 }
def f5_isCellIndex (N : Nat) (x0 : Int32) (σ : Hp) : Option (Int32 × Hp) :=
  if x0 < 0 then some (0, σ) else if (480 : Int32) ≤ x0 then some (0, σ) else some (1, σ)
abbrev rm5_isCellIndex : Room := { frames := 0, cells := 0, slots := 0, locals := 0 }
def f3_paintBlock_J55 (N : Nat) (g : Nat) (x1 : Int32) (x2 : Int32) (x3 : Int32) (x4 : Int32) (x5 : Int32) (K3 : Hp → Option (Unit × Hp)) (r3 : Int32 → Hp → Option (Unit × Hp)) (x6 : Int32) (K12 : Hp → Option (Unit × Hp)) (r12 : Int32 → Hp → Option (Unit × Hp)) (x7 : Int32) (σ : Hp) : Option (Unit × Hp) :=
  r12 (x7 + 1) σ
def f3_paintBlock_B12 (N : Nat) (g : Nat) (x1 : Int32) (x2 : Int32) (x3 : Int32) (x4 : Int32) (x5 : Int32) (K3 : Hp → Option (Unit × Hp)) (r3 : Int32 → Hp → Option (Unit × Hp)) (x6 : Int32) (K12 : Hp → Option (Unit × Hp)) (r12 : Int32 → Hp → Option (Unit × Hp)) (x7 : Int32) (σ : Hp) : Option (Unit × Hp) :=
  if x2 ≤ x7 then K12 σ else bd (f5_isCellIndex N ((x1 + (x6 * 5)) + x7) σ) (fun r31 σ31 => if r31 = 0 then f3_paintBlock_J55 N g x1 x2 x3 x4 x5 K3 r3 x6 K12 r12 x7 σ31 else gd (vib ((x1 + (x6 * 5)) + x7) 480) (gd (vib ((x1 + (x6 * 5)) + x7) 480) (f3_paintBlock_J55 N g x1 x2 x3 x4 x5 K3 r3 x6 K12 r12 x7 (st (st σ31 (g + 1) ((x1 + (x6 * 5)) + x7).toNatClampNeg x4) (g + 2) ((x1 + (x6 * 5)) + x7).toNatClampNeg x5))))
def f3_paintBlock_L12 (N : Nat) (g : Nat) (x1 : Int32) (x2 : Int32) (x3 : Int32) (x4 : Int32) (x5 : Int32) (K3 : Hp → Option (Unit × Hp)) (r3 : Int32 → Hp → Option (Unit × Hp)) (x6 : Int32) (K12 : Hp → Option (Unit × Hp)) (n : Nat) : Int32 → Hp → Option (Unit × Hp) :=
  it (fun _ _ => none) (f3_paintBlock_B12 N g x1 x2 x3 x4 x5 K3 r3 x6 K12) n
def f3_paintBlock_B3 (N : Nat) (g : Nat) (x1 : Int32) (x2 : Int32) (x3 : Int32) (x4 : Int32) (x5 : Int32) (K3 : Hp → Option (Unit × Hp)) (r3 : Int32 → Hp → Option (Unit × Hp)) (x6 : Int32) (σ : Hp) : Option (Unit × Hp) :=
  if x3 ≤ x6 then K3 σ else f3_paintBlock_L12 N g x1 x2 x3 x4 x5 K3 r3 x6 (fun σL12 => r3 (x6 + 1) σL12) N 0 σ
def f3_paintBlock_L3 (N : Nat) (g : Nat) (x1 : Int32) (x2 : Int32) (x3 : Int32) (x4 : Int32) (x5 : Int32) (K3 : Hp → Option (Unit × Hp)) (n : Nat) : Int32 → Hp → Option (Unit × Hp) :=
  it (fun _ _ => none) (f3_paintBlock_B3 N g x1 x2 x3 x4 x5 K3) n
def f3_paintBlock (N : Nat) (g : Nat) (x1 : Int32) (x2 : Int32) (x3 : Int32) (x4 : Int32) (x5 : Int32) (σ : Hp) : Option (Unit × Hp) :=
  f3_paintBlock_L3 N g x1 x2 x3 x4 x5 (fun σL3 => some ((), σL3)) N 0 σ
abbrev rm3_paintBlock : Room := { frames := 1, cells := 0, slots := 0, locals := 20 }
def f3_paintAdvertisements_J78 (N : Nat) (g : Nat) (K2 : Hp → Option (Unit × Hp)) (r2 : Int32 → Hp → Option (Unit × Hp)) (x1 : Int32) (σ : Hp) : Option (Unit × Hp) :=
  r2 (x1 + 1) σ
def f3_paintAdvertisements_B2 (N : Nat) (g : Nat) (K2 : Hp → Option (Unit × Hp)) (r2 : Int32 → Hp → Option (Unit × Hp)) (x1 : Int32) (σ : Hp) : Option (Unit × Hp) :=
  if (8 : Int32) ≤ x1 then K2 σ else bd (f1_hasAdvertisement N (edOf g) x1 σ) (fun r13 σ13 => if r13 = 0 then f3_paintAdvertisements_J78 N g K2 r2 x1 σ13 else bd (f1_advertisementNumber N (edOf g) x1 0 σ13) (fun r25 σ25 => bd (f1_advertisementNumber N (edOf g) x1 1 σ25) (fun r34 σ34 => bd (f1_advertisementNumber N (edOf g) x1 2 σ34) (fun r43 σ43 => bd (f5_cellIndex N r25 r34 r43 σ43) (fun r46 σ46 => bd (f1_advertisementNumber N (edOf g) x1 3 σ46) (fun r58 σ58 => bd (f1_advertisementNumber N (edOf g) x1 4 σ58) (fun r67 σ67 => bd (f3_paintBlock N g r46 r58 r67 1 (100 + x1) σ67) (fun _ σ75 => f3_paintAdvertisements_J78 N g K2 r2 x1 σ75))))))))
def f3_paintAdvertisements_L2 (N : Nat) (g : Nat) (K2 : Hp → Option (Unit × Hp)) (n : Nat) : Int32 → Hp → Option (Unit × Hp) :=
  it (fun _ _ => none) (f3_paintAdvertisements_B2 N g K2) n
def f3_paintAdvertisements (N : Nat) (g : Nat) (σ : Hp) : Option (Unit × Hp) :=
  f3_paintAdvertisements_L2 N g (fun σL2 => some ((), σL2)) N 0 σ
abbrev rm3_paintAdvertisements : Room := { frames := 2, cells := 0, slots := 0, locals := 48 }
def f3_comesBefore (N : Nat) (g : Nat) (x1 : Int32) (x2 : Int32) (σ : Hp) : Option (Int32 × Hp) :=
  bd (f1_isLate N (edOf g) x1 σ) (fun r5 σ5 => bd (f1_isLate N (edOf g) x2 σ5) (fun r13 σ13 => if r5 = r13 then bd (f1_storyNumber N (edOf g) x1 4 σ13) (fun r34 σ34 => bd (f1_storyNumber N (edOf g) x2 4 σ34) (fun r44 σ44 => if r34 = r44 then if x2 ≤ x1 then some (0, σ44) else some (1, σ44) else if r34 ≤ r44 then some (0, σ44) else some (1, σ44))) else bd (f1_isLate N (edOf g) x1 σ13) (fun r24 σ24 => gd (okB r24) (some (r24, σ24)))))
abbrev rm3_comesBefore : Room := { frames := 2, cells := 0, slots := 0, locals := 43 }
def f3_countBefore_J33 (N : Nat) (g : Nat) (x1 : Int32) (K4 : Int32 → Hp → Option (Int32 × Hp)) (r4 : Int32 → Int32 → Hp → Option (Int32 × Hp)) (x2 : Int32) (x3 : Int32) (σ : Hp) : Option (Int32 × Hp) :=
  r4 x2 (x3 + 1) σ
def f3_countBefore_B4 (N : Nat) (g : Nat) (x1 : Int32) (K4 : Int32 → Hp → Option (Int32 × Hp)) (r4 : Int32 → Int32 → Hp → Option (Int32 × Hp)) (x2 : Int32) (x3 : Int32) (σ : Hp) : Option (Int32 × Hp) :=
  if (12 : Int32) ≤ x3 then K4 x2 σ else bd (f1_hasStory N (edOf g) x3 σ) (fun r15 σ15 => if r15 = 0 then f3_countBefore_J33 N g x1 K4 r4 x2 x3 σ15 else bd (f3_comesBefore N g x3 x1 σ15) (fun r24 σ24 => if r24 = 0 then f3_countBefore_J33 N g x1 K4 r4 x2 x3 σ24 else f3_countBefore_J33 N g x1 K4 r4 (x2 + 1) x3 σ24))
def f3_countBefore_L4 (N : Nat) (g : Nat) (x1 : Int32) (K4 : Int32 → Hp → Option (Int32 × Hp)) (n : Nat) : Int32 → Int32 → Hp → Option (Int32 × Hp) :=
  it (fun _ _ _ => none) (f3_countBefore_B4 N g x1 K4) n
def f3_countBefore (N : Nat) (g : Nat) (x1 : Int32) (σ : Hp) : Option (Int32 × Hp) :=
  f3_countBefore_L4 N g x1 (fun x2_4 σL4 => some (x2_4, σL4)) N 0 0 σ
abbrev rm3_countBefore : Room := { frames := 3, cells := 0, slots := 0, locals := 67 }
def f3_rankStories_J46 (N : Nat) (g : Nat) (K2 : Hp → Option (Unit × Hp)) (r2 : Int32 → Hp → Option (Unit × Hp)) (x1 : Int32) (σ : Hp) : Option (Unit × Hp) :=
  r2 (x1 + 1) σ
def f3_rankStories_B2 (N : Nat) (g : Nat) (K2 : Hp → Option (Unit × Hp)) (r2 : Int32 → Hp → Option (Unit × Hp)) (x1 : Int32) (σ : Hp) : Option (Unit × Hp) :=
  if (12 : Int32) ≤ x1 then K2 σ else bd (f3_countBefore N g x1 σ) (fun r10 σ10 => bd (f1_hasStory N (edOf g) x1 σ10) (fun r19 σ19 => if r19 = 0 then f3_rankStories_J46 N g K2 r2 x1 σ19 else bd (f5_isStoryIndex N r10 σ19) (fun r26 σ26 => if r26 = 0 then f3_rankStories_J46 N g K2 r2 x1 σ26 else gd (vib x1 12) (gd (vib r10 12) (f3_rankStories_J46 N g K2 r2 x1 (st (st σ26 (g + 4) x1.toNatClampNeg r10) (g + 3) r10.toNatClampNeg x1))))))
def f3_rankStories_L2 (N : Nat) (g : Nat) (K2 : Hp → Option (Unit × Hp)) (n : Nat) : Int32 → Hp → Option (Unit × Hp) :=
  it (fun _ _ => none) (f3_rankStories_B2 N g K2) n
def f3_rankStories (N : Nat) (g : Nat) (σ : Hp) : Option (Unit × Hp) :=
  f3_rankStories_L2 N g (fun σL2 => some ((), σL2)) N 0 σ
abbrev rm3_rankStories : Room := { frames := 4, cells := 0, slots := 0, locals := 90 }
def f3_storyOfRank (N : Nat) (g : Nat) (x1 : Int32) (σ : Hp) : Option (Int32 × Hp) :=
  bd (f5_isStoryIndex N x1 σ) (fun r1 σ1 => if r1 = 0 then some ((-1), σ1) else gd (vib x1 12) (some (σ1 (g + 3) x1.toNatClampNeg, σ1)))
abbrev rm3_storyOfRank : Room := { frames := 1, cells := 0, slots := 0, locals := 20 }
def f5_rowOf (N : Nat) (x0 : Int32) (σ : Hp) : Option (Int32 × Hp) :=
  gd (!decide ((120 : Int32) = 0)) (gd (!decide ((5 : Int32) = 0)) (some ((x0 - x0 / (120 : Int32) * (120 : Int32)) / (5 : Int32), σ)))
abbrev rm5_rowOf : Room := { frames := 0, cells := 0, slots := 0, locals := 0 }
def f3_freeRows_B25 (N : Nat) (g : Nat) (x1 : Int32) (x2 : Int32) (K8 : Int32 → Hp → Option (Int32 × Hp)) (r8 : Int32 → Int32 → Hp → Option (Int32 × Hp)) (x3 : Int32) (x4 : Int32) (x5 : Int32) (K25 : Hp → Option (Int32 × Hp)) (r25 : Int32 → Hp → Option (Int32 × Hp)) (x6 : Int32) (σ : Hp) : Option (Int32 × Hp) :=
  if x2 ≤ x6 then K25 σ else bd (f5_isCellIndex N (x5 + x6) σ) (fun r36 σ36 => if r36 = 0 then some (x3, σ36) else gd (vib (x5 + x6) 480) (if (σ36 (g + 1) (x5 + x6).toNatClampNeg) = 0 then r25 (x6 + 1) σ36 else some (x3, σ36)))
def f3_freeRows_L25 (N : Nat) (g : Nat) (x1 : Int32) (x2 : Int32) (K8 : Int32 → Hp → Option (Int32 × Hp)) (r8 : Int32 → Int32 → Hp → Option (Int32 × Hp)) (x3 : Int32) (x4 : Int32) (x5 : Int32) (K25 : Hp → Option (Int32 × Hp)) (n : Nat) : Int32 → Hp → Option (Int32 × Hp) :=
  it (fun _ _ => none) (f3_freeRows_B25 N g x1 x2 K8 r8 x3 x4 x5 K25) n
def f3_freeRows_B8 (N : Nat) (g : Nat) (x1 : Int32) (x2 : Int32) (K8 : Int32 → Hp → Option (Int32 × Hp)) (r8 : Int32 → Int32 → Hp → Option (Int32 × Hp)) (x3 : Int32) (x4 : Int32) (σ : Hp) : Option (Int32 × Hp) :=
  if (24 : Int32) ≤ x4 then K8 x3 σ else f3_freeRows_L25 N g x1 x2 K8 r8 x3 x4 (x1 + (x3 * 5)) (fun σL25 => r8 (x3 + 1) (x4 + 1) σL25) N 0 σ
def f3_freeRows_L8 (N : Nat) (g : Nat) (x1 : Int32) (x2 : Int32) (K8 : Int32 → Hp → Option (Int32 × Hp)) (n : Nat) : Int32 → Int32 → Hp → Option (Int32 × Hp) :=
  it (fun _ _ _ => none) (f3_freeRows_B8 N g x1 x2 K8) n
def f3_freeRows (N : Nat) (g : Nat) (x1 : Int32) (x2 : Int32) (σ : Hp) : Option (Int32 × Hp) :=
  bd (f5_rowOf N x1 σ) (fun r3 σ3 => f3_freeRows_L8 N g x1 x2 (fun x3_8 σL8 => some (x3_8, σL8)) N 0 r3 σ3)
abbrev rm3_freeRows : Room := { frames := 1, cells := 0, slots := 0, locals := 20 }
def f3_findBlock_B25 (N : Nat) (g : Nat) (x1 : Int32) (x2 : Int32) (x3 : Int32) (x4 : Int32) (K3 : Hp → Option (Int32 × Hp)) (r3 : Int32 → Hp → Option (Int32 × Hp)) (x5 : Int32) (K12 : Hp → Option (Int32 × Hp)) (r12 : Int32 → Hp → Option (Int32 × Hp)) (x6 : Int32) (K25 : Hp → Option (Int32 × Hp)) (r25 : Int32 → Hp → Option (Int32 × Hp)) (x7 : Int32) (σ : Hp) : Option (Int32 × Hp) :=
  if (5 - x3) < x7 then K25 σ else bd (f5_cellIndex N x5 x7 x6 σ) (fun r39 σ39 => bd (f3_freeRows N g r39 x3 σ39) (fun r48 σ48 => if r48 < x4 then r25 (x7 + 1) σ48 else some (r39, σ48)))
def f3_findBlock_L25 (N : Nat) (g : Nat) (x1 : Int32) (x2 : Int32) (x3 : Int32) (x4 : Int32) (K3 : Hp → Option (Int32 × Hp)) (r3 : Int32 → Hp → Option (Int32 × Hp)) (x5 : Int32) (K12 : Hp → Option (Int32 × Hp)) (r12 : Int32 → Hp → Option (Int32 × Hp)) (x6 : Int32) (K25 : Hp → Option (Int32 × Hp)) (n : Nat) : Int32 → Hp → Option (Int32 × Hp) :=
  it (fun _ _ => none) (f3_findBlock_B25 N g x1 x2 x3 x4 K3 r3 x5 K12 r12 x6 K25) n
def f3_findBlock_B12 (N : Nat) (g : Nat) (x1 : Int32) (x2 : Int32) (x3 : Int32) (x4 : Int32) (K3 : Hp → Option (Int32 × Hp)) (r3 : Int32 → Hp → Option (Int32 × Hp)) (x5 : Int32) (K12 : Hp → Option (Int32 × Hp)) (r12 : Int32 → Hp → Option (Int32 × Hp)) (x6 : Int32) (σ : Hp) : Option (Int32 × Hp) :=
  if (24 - x4) < x6 then K12 σ else f3_findBlock_L25 N g x1 x2 x3 x4 K3 r3 x5 K12 r12 x6 (fun σL25 => r12 (x6 + 1) σL25) N 0 σ
def f3_findBlock_L12 (N : Nat) (g : Nat) (x1 : Int32) (x2 : Int32) (x3 : Int32) (x4 : Int32) (K3 : Hp → Option (Int32 × Hp)) (r3 : Int32 → Hp → Option (Int32 × Hp)) (x5 : Int32) (K12 : Hp → Option (Int32 × Hp)) (n : Nat) : Int32 → Hp → Option (Int32 × Hp) :=
  it (fun _ _ => none) (f3_findBlock_B12 N g x1 x2 x3 x4 K3 r3 x5 K12) n
def f3_findBlock_B3 (N : Nat) (g : Nat) (x1 : Int32) (x2 : Int32) (x3 : Int32) (x4 : Int32) (K3 : Hp → Option (Int32 × Hp)) (r3 : Int32 → Hp → Option (Int32 × Hp)) (x5 : Int32) (σ : Hp) : Option (Int32 × Hp) :=
  if x2 < x5 then K3 σ else f3_findBlock_L12 N g x1 x2 x3 x4 K3 r3 x5 (fun σL12 => r3 (x5 + 1) σL12) N 0 σ
def f3_findBlock_L3 (N : Nat) (g : Nat) (x1 : Int32) (x2 : Int32) (x3 : Int32) (x4 : Int32) (K3 : Hp → Option (Int32 × Hp)) (n : Nat) : Int32 → Hp → Option (Int32 × Hp) :=
  it (fun _ _ => none) (f3_findBlock_B3 N g x1 x2 x3 x4 K3) n
def f3_findBlock (N : Nat) (g : Nat) (x1 : Int32) (x2 : Int32) (x3 : Int32) (x4 : Int32) (σ : Hp) : Option (Int32 × Hp) :=
  f3_findBlock_L3 N g x1 x2 x3 x4 (fun σL3 => some ((-1), σL3)) N x1 σ
abbrev rm3_findBlock : Room := { frames := 2, cells := 0, slots := 0, locals := 46 }
def f3_findStart_J26 (N : Nat) (g : Nat) (x1 : Int32) (x2 : Int32) (y0 : Int32) (σ : Hp) : Option (Int32 × Hp) :=
  bd (f1_headRows N (edOf g) x1 σ) (fun r32 σ32 => bd (f1_storyNumber N (edOf g) x1 1 σ32) (fun r48 σ48 => bd (f3_findBlock N g x2 y0 r48 (r32 + 2) σ48) (fun r53 σ53 => some (r53, σ53))))
def f3_findStart (N : Nat) (g : Nat) (x1 : Int32) (σ : Hp) : Option (Int32 × Hp) :=
  bd (f1_storyNumber N (edOf g) x1 0 σ) (fun r6 σ6 => bd (f1_isLate N (edOf g) x1 σ6) (fun r15 σ15 => if r15 = 0 then f3_findStart_J26 N g x1 r6 3 σ15 else f3_findStart_J26 N g x1 r6 r6 σ15))
abbrev rm3_findStart : Room := { frames := 3, cells := 0, slots := 0, locals := 74 }
def f5_pageOf (N : Nat) (x0 : Int32) (σ : Hp) : Option (Int32 × Hp) :=
  gd (!decide ((120 : Int32) = 0)) (some (x0 / (120 : Int32), σ))
abbrev rm5_pageOf : Room := { frames := 0, cells := 0, slots := 0, locals := 0 }
def f3_findGoOn (N : Nat) (g : Nat) (x1 : Int32) (σ : Hp) : Option (Int32 × Hp) :=
  bd (f5_pageOf N x1 σ) (fun r2 σ2 => bd (f3_findBlock N g (r2 + 1) 3 1 3 σ2) (fun r10 σ10 => some (r10, σ10)))
abbrev rm3_findGoOn : Room := { frames := 3, cells := 0, slots := 0, locals := 74 }
def f3_putStartDepth (N : Nat) (g : Nat) (x1 : Int32) (x2 : Int32) (σ : Hp) : Option (Unit × Hp) :=
  bd (f5_isStoryIndex N x1 σ) (fun r1 σ1 => if r1 = 0 then some ((), σ1) else gd (vib x1 12) (some ((), (st σ1 (g + 8) x1.toNatClampNeg x2))))
abbrev rm3_putStartDepth : Room := { frames := 1, cells := 0, slots := 0, locals := 20 }
def f3_linesOfColumn (N : Nat) (x0 : Int32) (x1 : Int32) (x2 : Int32) (σ : Hp) : Option (Int32 × Hp) :=
  if (1 : Int32) ≤ x1 then gd (!decide (x1 = 0)) (some ((((x0 + x1) - 1) - x2) / x1, σ)) else some (0, σ)
abbrev rm3_linesOfColumn : Room := { frames := 0, cells := 0, slots := 0, locals := 0 }
def f3_partCountOf (N : Nat) (g : Nat) (x1 : Int32) (σ : Hp) : Option (Int32 × Hp) :=
  bd (f5_isStoryIndex N x1 σ) (fun r1 σ1 => if r1 = 0 then some (0, σ1) else gd (vib x1 12) (some (σ1 (g + 5) x1.toNatClampNeg, σ1)))
abbrev rm3_partCountOf : Room := { frames := 1, cells := 0, slots := 0, locals := 20 }
def f5_columnOf (N : Nat) (x0 : Int32) (σ : Hp) : Option (Int32 × Hp) :=
  gd (!decide ((5 : Int32) = 0)) (some (x0 - x0 / (5 : Int32) * (5 : Int32), σ))
abbrev rm5_columnOf : Room := { frames := 0, cells := 0, slots := 0, locals := 0 }
def f3_addPart_J170 (N : Nat) (g : Nat) (x1 : Int32) (x2 : Int32) (x3 : Int32) (x4 : Int32) (x5 : Int32) (x6 : Int32) (x7 : Int32) (y0 : Int32) (y1 : Int32) (σ : Hp) : Option (Unit × Hp) :=
  gd (vib y1 432) (gd (vib x1 12) (gd (vib x1 12) (gd (vib x1 12) (some ((), (st (st (st σ (g + 6) y1.toNatClampNeg y0) (g + 7) x1.toNatClampNeg (((st σ (g + 6) y1.toNatClampNeg y0) (g + 7) x1.toNatClampNeg) + x5)) (g + 5) x1.toNatClampNeg (x7 + 1)))))))
def f3_addPart_J143 (N : Nat) (g : Nat) (x1 : Int32) (x2 : Int32) (x3 : Int32) (x4 : Int32) (x5 : Int32) (x6 : Int32) (x7 : Int32) (x8 : Int32) (y0 : Int32) (y1 : Int32) (σ : Hp) : Option (Unit × Hp) :=
  gd (vib y1 432) (if x7 = 0 then bd (f1_headRows N (edOf g) x1 (st σ (g + 6) y1.toNatClampNeg y0)) (fun r163 σ163 => f3_addPart_J170 N g x1 x2 x3 x4 x5 x6 x7 r163 (x8 + 8) σ163) else f3_addPart_J170 N g x1 x2 x3 x4 x5 x6 x7 1 (x8 + 8) (st σ (g + 6) y1.toNatClampNeg y0))
def f3_addPart (N : Nat) (g : Nat) (x1 : Int32) (x2 : Int32) (x3 : Int32) (x4 : Int32) (x5 : Int32) (x6 : Int32) (σ : Hp) : Option (Unit × Hp) :=
  bd (f3_partCountOf N g x1 σ) (fun r2 σ2 => bd (f5_isStoryIndex N x1 σ2) (fun r8 σ8 => if r8 = 0 then some ((), σ8) else if r2 < 0 then some ((), σ8) else if r2 < (4 : Int32) then bd (f5_pageOf N x2 σ8) (fun r46 σ46 => gd (vib ((((x1 * 4) + r2) * 9) + 0) 432) (bd (f5_columnOf N x2 (st σ46 (g + 6) ((((x1 * 4) + r2) * 9) + 0).toNatClampNeg r46)) (fun r59 σ59 => gd (vib ((((x1 * 4) + r2) * 9) + 1) 432) (bd (f5_rowOf N x2 (st σ59 (g + 6) ((((x1 * 4) + r2) * 9) + 1).toNatClampNeg r59)) (fun r72 σ72 => gd (vib ((((x1 * 4) + r2) * 9) + 2) 432) (gd (vib ((((x1 * 4) + r2) * 9) + 3) 432) (gd (vib ((((x1 * 4) + r2) * 9) + 4) 432) (gd (vib ((((x1 * 4) + r2) * 9) + 5) 432) (gd (vib x1 12) (gd (vib ((((x1 * 4) + r2) * 9) + 6) 432) (if x6 = 0 then f3_addPart_J143 N g x1 x2 x3 x4 x5 x6 r2 (((x1 * 4) + r2) * 9) 0 ((((x1 * 4) + r2) * 9) + 7) (st (st (st (st (st σ72 (g + 6) ((((x1 * 4) + r2) * 9) + 2).toNatClampNeg r72) (g + 6) ((((x1 * 4) + r2) * 9) + 3).toNatClampNeg x3) (g + 6) ((((x1 * 4) + r2) * 9) + 4).toNatClampNeg x4) (g + 6) ((((x1 * 4) + r2) * 9) + 5).toNatClampNeg x5) (g + 6) ((((x1 * 4) + r2) * 9) + 6).toNatClampNeg ((st (st (st (st σ72 (g + 6) ((((x1 * 4) + r2) * 9) + 2).toNatClampNeg r72) (g + 6) ((((x1 * 4) + r2) * 9) + 3).toNatClampNeg x3) (g + 6) ((((x1 * 4) + r2) * 9) + 4).toNatClampNeg x4) (g + 6) ((((x1 * 4) + r2) * 9) + 5).toNatClampNeg x5) (g + 7) x1.toNatClampNeg)) else f3_addPart_J143 N g x1 x2 x3 x4 x5 x6 r2 (((x1 * 4) + r2) * 9) 1 ((((x1 * 4) + r2) * 9) + 7) (st (st (st (st (st σ72 (g + 6) ((((x1 * 4) + r2) * 9) + 2).toNatClampNeg r72) (g + 6) ((((x1 * 4) + r2) * 9) + 3).toNatClampNeg x3) (g + 6) ((((x1 * 4) + r2) * 9) + 4).toNatClampNeg x4) (g + 6) ((((x1 * 4) + r2) * 9) + 5).toNatClampNeg x5) (g + 6) ((((x1 * 4) + r2) * 9) + 6).toNatClampNeg ((st (st (st (st σ72 (g + 6) ((((x1 * 4) + r2) * 9) + 2).toNatClampNeg r72) (g + 6) ((((x1 * 4) + r2) * 9) + 3).toNatClampNeg x3) (g + 6) ((((x1 * 4) + r2) * 9) + 4).toNatClampNeg x4) (g + 6) ((((x1 * 4) + r2) * 9) + 5).toNatClampNeg x5) (g + 7) x1.toNatClampNeg))))))))))))) else some ((), σ8)))
abbrev rm3_addPart : Room := { frames := 2, cells := 0, slots := 0, locals := 43 }
def f3_placeStart_J111 (N : Nat) (g : Nat) (x1 : Int32) (x2 : Int32) (x3 : Int32) (x4 : Int32) (x5 : Int32) (x7 : Int32) (x8 : Int32) (y0 : Int32) (σ : Hp) : Option (Int32 × Hp) :=
  bd (f3_addPart N g x1 x2 x4 (x5 + x7) (x4 * y0) x8 σ) (fun _ σ130 => some (x3, σ130))
def f3_placeStart_J95 (N : Nat) (g : Nat) (x1 : Int32) (x2 : Int32) (x3 : Int32) (x4 : Int32) (x5 : Int32) (x7 : Int32) (y0 : Int32) (σ : Hp) : Option (Int32 × Hp) :=
  if y0 = 0 then f3_placeStart_J111 N g x1 x2 x3 x4 x5 x7 y0 x7 σ else f3_placeStart_J111 N g x1 x2 x3 x4 x5 x7 y0 (x7 - 1) σ
def f3_placeStart (N : Nat) (g : Nat) (x1 : Int32) (x2 : Int32) (x3 : Int32) (σ : Hp) : Option (Int32 × Hp) :=
  bd (f1_storyNumber N (edOf g) x1 1 σ) (fun r6 σ6 => bd (f1_headRows N (edOf g) x1 σ6) (fun r16 σ16 => bd (f1_storyNumber N (edOf g) x1 3 σ16) (fun r27 σ27 => bd (f3_freeRows N g x2 r6 σ27) (fun r36 σ36 => bd (f3_putStartDepth N g x1 (r36 - r16) σ36) (fun _ σ48 => if (r6 * (r36 - r16)) < r27 then if x3 = (-1 : Int32) then f3_placeStart_J95 N g x1 x2 x3 r6 r16 (r36 - r16) 0 σ48 else f3_placeStart_J95 N g x1 x2 x3 r6 r16 (r36 - r16) 1 σ48 else bd (f3_linesOfColumn N r27 r6 0 σ48) (fun r73 σ73 => bd (f3_addPart N g x1 x2 r6 (r16 + r73) r27 0 σ73) (fun _ σ80 => some ((-1), σ80))))))))
abbrev rm3_placeStart : Room := { frames := 3, cells := 0, slots := 0, locals := 71 }
def f3_linesOnPages (N : Nat) (g : Nat) (x1 : Int32) (σ : Hp) : Option (Int32 × Hp) :=
  bd (f5_isStoryIndex N x1 σ) (fun r1 σ1 => if r1 = 0 then some (0, σ1) else gd (vib x1 12) (some (σ1 (g + 7) x1.toNatClampNeg, σ1)))
abbrev rm3_linesOnPages : Room := { frames := 1, cells := 0, slots := 0, locals := 20 }
def f3_linesCut (N : Nat) (g : Nat) (x1 : Int32) (σ : Hp) : Option (Int32 × Hp) :=
  bd (f1_storyNumber N (edOf g) x1 3 σ) (fun r6 σ6 => bd (f3_linesOnPages N g x1 σ6) (fun r11 σ11 => some (r6 - r11, σ11)))
abbrev rm3_linesCut : Room := { frames := 2, cells := 0, slots := 0, locals := 41 }
def f3_placeContinuation_J74 (N : Nat) (g : Nat) (x1 : Int32) (x2 : Int32) (x3 : Int32) (x6 : Int32) (y0 : Int32) (y1 : Int32) (y2 : Int32) (y3 : Int32) (y4 : Int32) (σ : Hp) : Option (Int32 × Hp) :=
  bd (f3_addPart N g y4 y3 y2 y1 y0 x6 σ) (fun _ σ76 => some (x3, σ76))
def f3_placeContinuation_J50 (N : Nat) (g : Nat) (x1 : Int32) (x2 : Int32) (x3 : Int32) (x4 : Int32) (y0 : Int32) (σ : Hp) : Option (Int32 × Hp) :=
  if y0 = 0 then f3_placeContinuation_J74 N g x1 x2 x3 y0 (x4 - 1) x4 1 x2 x1 σ else f3_placeContinuation_J74 N g x1 x2 x3 y0 (x4 - 2) x4 1 x2 x1 σ
def f3_placeContinuation (N : Nat) (g : Nat) (x1 : Int32) (x2 : Int32) (x3 : Int32) (σ : Hp) : Option (Int32 × Hp) :=
  bd (f3_freeRows N g x2 1 σ) (fun r3 σ3 => bd (f3_linesCut N g x1 σ3) (fun r10 σ10 => if (r3 - 1) < r10 then if x3 = (-1 : Int32) then f3_placeContinuation_J50 N g x1 x2 x3 r3 0 σ10 else f3_placeContinuation_J50 N g x1 x2 x3 r3 1 σ10 else bd (f3_addPart N g x1 x2 1 (1 + r10) r10 0 σ10) (fun _ σ35 => some ((-1), σ35))))
abbrev rm3_placeContinuation : Room := { frames := 3, cells := 0, slots := 0, locals := 71 }
def f3_partNumber (N : Nat) (g : Nat) (x1 : Int32) (x2 : Int32) (x3 : Int32) (σ : Hp) : Option (Int32 × Hp) :=
  if x1 < 0 then some (0, σ) else if (12 : Int32) ≤ x1 then some (0, σ) else if x2 < 0 then some (0, σ) else if (4 : Int32) ≤ x2 then some (0, σ) else if x3 < 0 then some (0, σ) else if x3 < (9 : Int32) then gd (vib ((((x1 * 4) + x2) * 9) + x3) 432) (some (σ (g + 6) ((((x1 * 4) + x2) * 9) + x3).toNatClampNeg, σ)) else some (0, σ)
abbrev rm3_partNumber : Room := { frames := 0, cells := 0, slots := 0, locals := 0 }
def f3_firstCell (N : Nat) (g : Nat) (x1 : Int32) (x2 : Int32) (σ : Hp) : Option (Int32 × Hp) :=
  bd (f3_partNumber N g x1 x2 0 σ) (fun r4 σ4 => bd (f3_partNumber N g x1 x2 1 σ4) (fun r11 σ11 => bd (f3_partNumber N g x1 x2 2 σ11) (fun r18 σ18 => bd (f5_cellIndex N r4 r11 r18 σ18) (fun r21 σ21 => some (r21, σ21)))))
abbrev rm3_firstCell : Room := { frames := 1, cells := 0, slots := 0, locals := 23 }
def f3_paintPartHead (N : Nat) (g : Nat) (x1 : Int32) (x2 : Int32) (σ : Hp) : Option (Unit × Hp) :=
  bd (f3_firstCell N g x1 x2 σ) (fun r3 σ3 => bd (f3_partNumber N g x1 x2 3 σ3) (fun r11 σ11 => if x2 ≤ 0 then bd (f1_storyNumber N (edOf g) x1 2 σ11) (fun r38 σ38 => bd (f1_storyNumber N (edOf g) x1 5 σ38) (fun r49 σ49 => bd (f1_storyNumber N (edOf g) x1 6 σ49) (fun r61 σ61 => bd (f3_paintBlock N g r3 r11 r38 2 x1 σ61) (fun _ σ74 => bd (f3_paintBlock N g (r3 + (r38 * 5)) r11 r49 3 x1 σ74) (fun _ σ90 => bd (f3_paintBlock N g (r3 + ((r38 + r49) * 5)) r11 r61 4 x1 σ90) (fun _ σ109 => some ((), σ109))))))) else bd (f3_paintBlock N g r3 r11 1 7 x1 σ11) (fun _ σ28 => some ((), σ28))))
abbrev rm3_paintPartHead : Room := { frames := 2, cells := 0, slots := 0, locals := 48 }
def f3_firstLineCell (N : Nat) (g : Nat) (x1 : Int32) (x2 : Int32) (σ : Hp) : Option (Int32 × Hp) :=
  bd (f3_firstCell N g x1 x2 σ) (fun r3 σ3 => bd (f3_partNumber N g x1 x2 8 σ3) (fun r11 σ11 => some (r3 + (r11 * 5), σ11)))
abbrev rm3_firstLineCell : Room := { frames := 2, cells := 0, slots := 0, locals := 45 }
def f3_paintPart_B77 (N : Nat) (g : Nat) (x1 : Int32) (x2 : Int32) (x3 : Int32) (x4 : Int32) (x5 : Int32) (x6 : Int32) (x7 : Int32) (K77 : Hp → Option (Unit × Hp)) (r77 : Int32 → Hp → Option (Unit × Hp)) (x8 : Int32) (σ : Hp) : Option (Unit × Hp) :=
  if x3 ≤ x8 then K77 σ else bd (f3_linesOfColumn N x4 x3 x8 σ) (fun r95 σ95 => bd (f3_paintBlock N g (x6 + x8) 1 r95 5 x1 σ95) (fun _ σ100 => r77 (x8 + 1) σ100))
def f3_paintPart_L77 (N : Nat) (g : Nat) (x1 : Int32) (x2 : Int32) (x3 : Int32) (x4 : Int32) (x5 : Int32) (x6 : Int32) (x7 : Int32) (K77 : Hp → Option (Unit × Hp)) (n : Nat) : Int32 → Hp → Option (Unit × Hp) :=
  it (fun _ _ => none) (f3_paintPart_B77 N g x1 x2 x3 x4 x5 x6 x7 K77) n
def f3_paintPart (N : Nat) (g : Nat) (x1 : Int32) (x2 : Int32) (σ : Hp) : Option (Unit × Hp) :=
  bd (f3_partNumber N g x1 x2 3 σ) (fun r4 σ4 => bd (f3_partNumber N g x1 x2 5 σ4) (fun r12 σ12 => bd (f3_partNumber N g x1 x2 7 σ12) (fun r22 σ22 => bd (f3_paintPartHead N g x1 x2 σ22) (fun _ σ30 => bd (f3_firstLineCell N g x1 x2 σ30) (fun r36 σ36 => bd (f3_partNumber N g x1 x2 4 σ36) (fun r45 σ45 => bd (f3_partNumber N g x1 x2 8 σ45) (fun r53 σ53 => bd (f3_paintBlock N g r36 r4 ((r45 - r53) - r22) 8 x1 σ53) (fun _ σ71 => f3_paintPart_L77 N g x1 x2 r4 r12 r22 r36 ((r45 - r53) - r22) (fun σL77 => bd (f3_paintBlock N g (r36 + (((r45 - r53) - r22) * 5)) r4 r22 6 x1 σL77) (fun _ σ123 => some ((), σ123))) N 0 σ71))))))))
abbrev rm3_paintPart : Room := { frames := 3, cells := 0, slots := 0, locals := 75 }
def f3_placeStory_J48 (N : Nat) (g : Nat) (x1 : Int32) (K8 : Hp → Option (Unit × Hp)) (r8 : Int32 → Int32 → Hp → Option (Unit × Hp)) (x3 : Int32) (y0 : Int32) (σ : Hp) : Option (Unit × Hp) :=
  bd (f3_paintPart N g x1 x3 σ) (fun _ σ52 => r8 y0 (x3 + 1) σ52)
def f3_placeStory_B8 (N : Nat) (g : Nat) (x1 : Int32) (K8 : Hp → Option (Unit × Hp)) (r8 : Int32 → Int32 → Hp → Option (Unit × Hp)) (x2 : Int32) (x3 : Int32) (σ : Hp) : Option (Unit × Hp) :=
  if (4 : Int32) ≤ x3 then K8 σ else if x2 = (-1 : Int32) then K8 σ else bd (f3_findGoOn N g x2 σ) (fun r20 σ20 => if x3 = 0 then bd (f3_placeStart N g x1 x2 r20 σ20) (fun r34 σ34 => f3_placeStory_J48 N g x1 K8 r8 x3 r34 σ34) else bd (f3_placeContinuation N g x1 x2 r20 σ20) (fun r45 σ45 => f3_placeStory_J48 N g x1 K8 r8 x3 r45 σ45))
def f3_placeStory_L8 (N : Nat) (g : Nat) (x1 : Int32) (K8 : Hp → Option (Unit × Hp)) (n : Nat) : Int32 → Int32 → Hp → Option (Unit × Hp) :=
  it (fun _ _ _ => none) (f3_placeStory_B8 N g x1 K8) n
def f3_placeStory (N : Nat) (g : Nat) (x1 : Int32) (σ : Hp) : Option (Unit × Hp) :=
  bd (f3_findStart N g x1 σ) (fun r2 σ2 => f3_placeStory_L8 N g x1 (fun σL8 => some ((), σL8)) N r2 0 σ2)
abbrev rm3_placeStory : Room := { frames := 4, cells := 0, slots := 0, locals := 103 }
def f3_layOut_B22 (N : Nat) (g : Nat) (x1 : Int32) (K22 : Hp → Option (Unit × Hp)) (r22 : Int32 → Hp → Option (Unit × Hp)) (x2 : Int32) (σ : Hp) : Option (Unit × Hp) :=
  if x1 ≤ x2 then K22 σ else bd (f3_storyOfRank N g x2 σ) (fun r30 σ30 => bd (f3_placeStory N g r30 σ30) (fun _ σ33 => r22 (x2 + 1) σ33))
def f3_layOut_L22 (N : Nat) (g : Nat) (x1 : Int32) (K22 : Hp → Option (Unit × Hp)) (n : Nat) : Int32 → Hp → Option (Unit × Hp) :=
  it (fun _ _ => none) (f3_layOut_B22 N g x1 K22) n
def f3_layOut (N : Nat) (g : Nat) (σ : Hp) : Option (Unit × Hp) :=
  bd (f3_clear N g σ) (fun _ σ1 => bd (f3_paintAdvertisements N g σ1) (fun _ σ5 => bd (f3_rankStories N g σ5) (fun _ σ9 => bd (f1_storyCount N (edOf g) σ9) (fun r16 σ16 => f3_layOut_L22 N g r16 (fun σL22 => some ((), σL22)) N 0 σ16))))
abbrev rm3_layOut : Room := { frames := 5, cells := 0, slots := 0, locals := 127 }
def f3_cellInPart_B24 (N : Nat) (g : Nat) (x1 : Int32) (x2 : Int32) (x3 : Int32) (x4 : Int32) (x5 : Int32) (K24 : Hp → Option (Int32 × Hp)) (r24 : Int32 → Int32 → Hp → Option (Int32 × Hp)) (x6 : Int32) (x7 : Int32) (σ : Hp) : Option (Int32 × Hp) :=
  if x4 ≤ x7 then K24 σ else bd (f3_linesOfColumn N x5 x4 x7 σ) (fun r37 σ37 => if r37 ≤ x6 then r24 (x6 - r37) (x7 + 1) σ37 else bd (f3_firstLineCell N g x1 x2 σ37) (fun r52 σ52 => some ((r52 + (x6 * 5)) + x7, σ52)))
def f3_cellInPart_L24 (N : Nat) (g : Nat) (x1 : Int32) (x2 : Int32) (x3 : Int32) (x4 : Int32) (x5 : Int32) (K24 : Hp → Option (Int32 × Hp)) (n : Nat) : Int32 → Int32 → Hp → Option (Int32 × Hp) :=
  it (fun _ _ _ => none) (f3_cellInPart_B24 N g x1 x2 x3 x4 x5 K24) n
def f3_cellInPart (N : Nat) (g : Nat) (x1 : Int32) (x2 : Int32) (x3 : Int32) (σ : Hp) : Option (Int32 × Hp) :=
  bd (f3_partNumber N g x1 x2 3 σ) (fun r4 σ4 => bd (f3_partNumber N g x1 x2 5 σ4) (fun r13 σ13 => f3_cellInPart_L24 N g x1 x2 x3 r4 r13 (fun σL24 => some ((-1), σL24)) N x3 0 σ13))
abbrev rm3_cellInPart : Room := { frames := 3, cells := 0, slots := 0, locals := 67 }
def f3_cellOfLine_J53 (N : Nat) (g : Nat) (x1 : Int32) (x2 : Int32) (K2 : Hp → Option (Int32 × Hp)) (r2 : Int32 → Hp → Option (Int32 × Hp)) (x3 : Int32) (σ : Hp) : Option (Int32 × Hp) :=
  r2 (x3 + 1) σ
def f3_cellOfLine_B2 (N : Nat) (g : Nat) (x1 : Int32) (x2 : Int32) (K2 : Hp → Option (Int32 × Hp)) (r2 : Int32 → Hp → Option (Int32 × Hp)) (x3 : Int32) (σ : Hp) : Option (Int32 × Hp) :=
  bd (f3_partCountOf N g x1 σ) (fun r5 σ5 => if r5 ≤ x3 then K2 σ5 else bd (f3_partNumber N g x1 x3 6 σ5) (fun r17 σ17 => bd (f3_partNumber N g x1 x3 5 σ17) (fun r27 σ27 => if (x2 - r17) < 0 then f3_cellOfLine_J53 N g x1 x2 K2 r2 x3 σ27 else if r27 ≤ (x2 - r17) then f3_cellOfLine_J53 N g x1 x2 K2 r2 x3 σ27 else bd (f3_cellInPart N g x1 x3 (x2 - r17) σ27) (fun r49 σ49 => some (r49, σ49)))))
def f3_cellOfLine_L2 (N : Nat) (g : Nat) (x1 : Int32) (x2 : Int32) (K2 : Hp → Option (Int32 × Hp)) (n : Nat) : Int32 → Hp → Option (Int32 × Hp) :=
  it (fun _ _ => none) (f3_cellOfLine_B2 N g x1 x2 K2) n
def f3_cellOfLine (N : Nat) (g : Nat) (x1 : Int32) (x2 : Int32) (σ : Hp) : Option (Int32 × Hp) :=
  f3_cellOfLine_L2 N g x1 x2 (fun σL2 => some ((-1), σL2)) N 0 σ
abbrev rm3_cellOfLine : Room := { frames := 4, cells := 0, slots := 0, locals := 95 }
def f3_kindAt (N : Nat) (g : Nat) (x1 : Int32) (σ : Hp) : Option (Int32 × Hp) :=
  bd (f5_isCellIndex N x1 σ) (fun r1 σ1 => if r1 = 0 then some (0, σ1) else gd (vib x1 480) (some (σ1 (g + 1) x1.toNatClampNeg, σ1)))
abbrev rm3_kindAt : Room := { frames := 1, cells := 0, slots := 0, locals := 20 }
def f3_ownerAt (N : Nat) (g : Nat) (x1 : Int32) (σ : Hp) : Option (Int32 × Hp) :=
  bd (f5_isCellIndex N x1 σ) (fun r1 σ1 => if r1 = 0 then some ((-1), σ1) else gd (vib x1 480) (some (σ1 (g + 2) x1.toNatClampNeg, σ1)))
abbrev rm3_ownerAt : Room := { frames := 1, cells := 0, slots := 0, locals := 20 }
def f3_rankOf (N : Nat) (g : Nat) (x1 : Int32) (σ : Hp) : Option (Int32 × Hp) :=
  bd (f5_isStoryIndex N x1 σ) (fun r1 σ1 => if r1 = 0 then some ((-1), σ1) else gd (vib x1 12) (some (σ1 (g + 4) x1.toNatClampNeg, σ1)))
abbrev rm3_rankOf : Room := { frames := 1, cells := 0, slots := 0, locals := 20 }
def f3_isLeftOut (N : Nat) (g : Nat) (x1 : Int32) (σ : Hp) : Option (Int32 × Hp) :=
  bd (f3_partCountOf N g x1 σ) (fun r2 σ2 => if r2 = 0 then some (1, σ2) else some (0, σ2))
abbrev rm3_isLeftOut : Room := { frames := 2, cells := 0, slots := 0, locals := 41 }
def f3_startPageOf (N : Nat) (g : Nat) (x1 : Int32) (σ : Hp) : Option (Int32 × Hp) :=
  bd (f3_partCountOf N g x1 σ) (fun r2 σ2 => if r2 = 0 then some ((-1), σ2) else bd (f3_partNumber N g x1 0 0 σ2) (fun r16 σ16 => some (r16, σ16)))
abbrev rm3_startPageOf : Room := { frames := 2, cells := 0, slots := 0, locals := 41 }
def f3_startsOnOwnPage (N : Nat) (g : Nat) (x1 : Int32) (σ : Hp) : Option (Int32 × Hp) :=
  bd (f3_startPageOf N g x1 σ) (fun r2 σ2 => bd (f1_storyNumber N (edOf g) x1 0 σ2) (fun r11 σ11 => if r2 = r11 then some (1, σ11) else some (0, σ11)))
abbrev rm3_startsOnOwnPage : Room := { frames := 3, cells := 0, slots := 0, locals := 62 }
def f3_isBumped (N : Nat) (g : Nat) (x1 : Int32) (σ : Hp) : Option (Int32 × Hp) :=
  bd (f3_isLeftOut N g x1 σ) (fun r2 σ2 => if r2 = 0 then bd (f3_startsOnOwnPage N g x1 σ2) (fun r10 σ10 => if r10 = 0 then some (1, σ10) else some (0, σ10)) else some (0, σ2))
abbrev rm3_isBumped : Room := { frames := 4, cells := 0, slots := 0, locals := 83 }
def f3_linesAtStart_J17 (N : Nat) (g : Nat) (x1 : Int32) (y0 : Int32) (σ : Hp) : Option (Int32 × Hp) :=
  bd (f1_storyNumber N (edOf g) x1 1 σ) (fun r24 σ24 => some (r24 * y0, σ24))
def f3_linesAtStart (N : Nat) (g : Nat) (x1 : Int32) (σ : Hp) : Option (Int32 × Hp) :=
  bd (f5_isStoryIndex N x1 σ) (fun r1 σ1 => if r1 = 0 then f3_linesAtStart_J17 N g x1 0 σ1 else gd (vib x1 12) (f3_linesAtStart_J17 N g x1 (σ1 (g + 8) x1.toNatClampNeg) σ1))
abbrev rm3_linesAtStart : Room := { frames := 1, cells := 0, slots := 0, locals := 22 }
def f3_leftOutCount_J32 (N : Nat) (g : Nat) (K4 : Int32 → Hp → Option (Int32 × Hp)) (r4 : Int32 → Int32 → Hp → Option (Int32 × Hp)) (x1 : Int32) (x2 : Int32) (σ : Hp) : Option (Int32 × Hp) :=
  r4 x1 (x2 + 1) σ
def f3_leftOutCount_B4 (N : Nat) (g : Nat) (K4 : Int32 → Hp → Option (Int32 × Hp)) (r4 : Int32 → Int32 → Hp → Option (Int32 × Hp)) (x1 : Int32) (x2 : Int32) (σ : Hp) : Option (Int32 × Hp) :=
  if (12 : Int32) ≤ x2 then K4 x1 σ else bd (f1_hasStory N (edOf g) x2 σ) (fun r15 σ15 => if r15 = 0 then f3_leftOutCount_J32 N g K4 r4 x1 x2 σ15 else bd (f3_isLeftOut N g x2 σ15) (fun r23 σ23 => if r23 = 0 then f3_leftOutCount_J32 N g K4 r4 x1 x2 σ23 else f3_leftOutCount_J32 N g K4 r4 (x1 + 1) x2 σ23))
def f3_leftOutCount_L4 (N : Nat) (g : Nat) (K4 : Int32 → Hp → Option (Int32 × Hp)) (n : Nat) : Int32 → Int32 → Hp → Option (Int32 × Hp) :=
  it (fun _ _ _ => none) (f3_leftOutCount_B4 N g K4) n
def f3_leftOutCount (N : Nat) (g : Nat) (σ : Hp) : Option (Int32 × Hp) :=
  f3_leftOutCount_L4 N g (fun x1_4 σL4 => some (x1_4, σL4)) N 0 0 σ
abbrev rm3_leftOutCount : Room := { frames := 3, cells := 0, slots := 0, locals := 62 }
def f3_bumpedCount_J32 (N : Nat) (g : Nat) (K4 : Int32 → Hp → Option (Int32 × Hp)) (r4 : Int32 → Int32 → Hp → Option (Int32 × Hp)) (x1 : Int32) (x2 : Int32) (σ : Hp) : Option (Int32 × Hp) :=
  r4 x1 (x2 + 1) σ
def f3_bumpedCount_B4 (N : Nat) (g : Nat) (K4 : Int32 → Hp → Option (Int32 × Hp)) (r4 : Int32 → Int32 → Hp → Option (Int32 × Hp)) (x1 : Int32) (x2 : Int32) (σ : Hp) : Option (Int32 × Hp) :=
  if (12 : Int32) ≤ x2 then K4 x1 σ else bd (f1_hasStory N (edOf g) x2 σ) (fun r15 σ15 => if r15 = 0 then f3_bumpedCount_J32 N g K4 r4 x1 x2 σ15 else bd (f3_isBumped N g x2 σ15) (fun r23 σ23 => if r23 = 0 then f3_bumpedCount_J32 N g K4 r4 x1 x2 σ23 else f3_bumpedCount_J32 N g K4 r4 (x1 + 1) x2 σ23))
def f3_bumpedCount_L4 (N : Nat) (g : Nat) (K4 : Int32 → Hp → Option (Int32 × Hp)) (n : Nat) : Int32 → Int32 → Hp → Option (Int32 × Hp) :=
  it (fun _ _ _ => none) (f3_bumpedCount_B4 N g K4) n
def f3_bumpedCount (N : Nat) (g : Nat) (σ : Hp) : Option (Int32 × Hp) :=
  f3_bumpedCount_L4 N g (fun x1_4 σL4 => some (x1_4, σL4)) N 0 0 σ
abbrev rm3_bumpedCount : Room := { frames := 5, cells := 0, slots := 0, locals := 104 }
def f3_jumpCount_B12 (N : Nat) (g : Nat) (K4 : Int32 → Hp → Option (Int32 × Hp)) (r4 : Int32 → Int32 → Hp → Option (Int32 × Hp)) (x2 : Int32) (K12 : Int32 → Hp → Option (Int32 × Hp)) (r12 : Int32 → Int32 → Hp → Option (Int32 × Hp)) (x1 : Int32) (x3 : Int32) (σ : Hp) : Option (Int32 × Hp) :=
  bd (f3_partCountOf N g x2 σ) (fun r15 σ15 => if r15 ≤ x3 then K12 x1 σ15 else bd (f3_partNumber N g x2 x3 7 σ15) (fun r27 σ27 => r12 (x1 + r27) (x3 + 1) σ27))
def f3_jumpCount_L12 (N : Nat) (g : Nat) (K4 : Int32 → Hp → Option (Int32 × Hp)) (r4 : Int32 → Int32 → Hp → Option (Int32 × Hp)) (x2 : Int32) (K12 : Int32 → Hp → Option (Int32 × Hp)) (n : Nat) : Int32 → Int32 → Hp → Option (Int32 × Hp) :=
  it (fun _ _ _ => none) (f3_jumpCount_B12 N g K4 r4 x2 K12) n
def f3_jumpCount_B4 (N : Nat) (g : Nat) (K4 : Int32 → Hp → Option (Int32 × Hp)) (r4 : Int32 → Int32 → Hp → Option (Int32 × Hp)) (x1 : Int32) (x2 : Int32) (σ : Hp) : Option (Int32 × Hp) :=
  if (12 : Int32) ≤ x2 then K4 x1 σ else f3_jumpCount_L12 N g K4 r4 x2 (fun x1_12 σL12 => r4 x1_12 (x2 + 1) σL12) N x1 0 σ
def f3_jumpCount_L4 (N : Nat) (g : Nat) (K4 : Int32 → Hp → Option (Int32 × Hp)) (n : Nat) : Int32 → Int32 → Hp → Option (Int32 × Hp) :=
  it (fun _ _ _ => none) (f3_jumpCount_B4 N g K4) n
def f3_jumpCount (N : Nat) (g : Nat) (σ : Hp) : Option (Int32 × Hp) :=
  f3_jumpCount_L4 N g (fun x1_4 σL4 => some (x1_4, σL4)) N 0 0 σ
abbrev rm3_jumpCount : Room := { frames := 2, cells := 0, slots := 0, locals := 41 }
def f3_allLinesOnPages_J29 (N : Nat) (g : Nat) (K4 : Int32 → Hp → Option (Int32 × Hp)) (r4 : Int32 → Int32 → Hp → Option (Int32 × Hp)) (x1 : Int32) (x2 : Int32) (σ : Hp) : Option (Int32 × Hp) :=
  r4 x1 (x2 + 1) σ
def f3_allLinesOnPages_B4 (N : Nat) (g : Nat) (K4 : Int32 → Hp → Option (Int32 × Hp)) (r4 : Int32 → Int32 → Hp → Option (Int32 × Hp)) (x1 : Int32) (x2 : Int32) (σ : Hp) : Option (Int32 × Hp) :=
  if (12 : Int32) ≤ x2 then K4 x1 σ else bd (f1_hasStory N (edOf g) x2 σ) (fun r15 σ15 => if r15 = 0 then f3_allLinesOnPages_J29 N g K4 r4 x1 x2 σ15 else bd (f3_linesOnPages N g x2 σ15) (fun r24 σ24 => f3_allLinesOnPages_J29 N g K4 r4 (x1 + r24) x2 σ24))
def f3_allLinesOnPages_L4 (N : Nat) (g : Nat) (K4 : Int32 → Hp → Option (Int32 × Hp)) (n : Nat) : Int32 → Int32 → Hp → Option (Int32 × Hp) :=
  it (fun _ _ _ => none) (f3_allLinesOnPages_B4 N g K4) n
def f3_allLinesOnPages (N : Nat) (g : Nat) (σ : Hp) : Option (Int32 × Hp) :=
  f3_allLinesOnPages_L4 N g (fun x1_4 σL4 => some (x1_4, σL4)) N 0 0 σ
abbrev rm3_allLinesOnPages : Room := { frames := 2, cells := 0, slots := 0, locals := 41 }
def f3_allLinesCut_J29 (N : Nat) (g : Nat) (K4 : Int32 → Hp → Option (Int32 × Hp)) (r4 : Int32 → Int32 → Hp → Option (Int32 × Hp)) (x1 : Int32) (x2 : Int32) (σ : Hp) : Option (Int32 × Hp) :=
  r4 x1 (x2 + 1) σ
def f3_allLinesCut_B4 (N : Nat) (g : Nat) (K4 : Int32 → Hp → Option (Int32 × Hp)) (r4 : Int32 → Int32 → Hp → Option (Int32 × Hp)) (x1 : Int32) (x2 : Int32) (σ : Hp) : Option (Int32 × Hp) :=
  if (12 : Int32) ≤ x2 then K4 x1 σ else bd (f1_hasStory N (edOf g) x2 σ) (fun r15 σ15 => if r15 = 0 then f3_allLinesCut_J29 N g K4 r4 x1 x2 σ15 else bd (f3_linesCut N g x2 σ15) (fun r24 σ24 => f3_allLinesCut_J29 N g K4 r4 (x1 + r24) x2 σ24))
def f3_allLinesCut_L4 (N : Nat) (g : Nat) (K4 : Int32 → Hp → Option (Int32 × Hp)) (n : Nat) : Int32 → Int32 → Hp → Option (Int32 × Hp) :=
  it (fun _ _ _ => none) (f3_allLinesCut_B4 N g K4) n
def f3_allLinesCut (N : Nat) (g : Nat) (σ : Hp) : Option (Int32 × Hp) :=
  f3_allLinesCut_L4 N g (fun x1_4 σL4 => some (x1_4, σL4)) N 0 0 σ
abbrev rm3_allLinesCut : Room := { frames := 3, cells := 0, slots := 0, locals := 62 }
def f3_cellsOfKind_J32 (N : Nat) (g : Nat) (x1 : Int32) (x2 : Int32) (K8 : Int32 → Hp → Option (Int32 × Hp)) (r8 : Int32 → Int32 → Hp → Option (Int32 × Hp)) (x3 : Int32) (x4 : Int32) (σ : Hp) : Option (Int32 × Hp) :=
  r8 x3 (x4 + 1) σ
def f3_cellsOfKind_B8 (N : Nat) (g : Nat) (x1 : Int32) (x2 : Int32) (K8 : Int32 → Hp → Option (Int32 × Hp)) (r8 : Int32 → Int32 → Hp → Option (Int32 × Hp)) (x3 : Int32) (x4 : Int32) (σ : Hp) : Option (Int32 × Hp) :=
  if ((x1 + 1) * 120) ≤ x4 then K8 x3 σ else bd (f3_kindAt N g x4 σ) (fun r22 σ22 => if r22 = x2 then f3_cellsOfKind_J32 N g x1 x2 K8 r8 (x3 + 1) x4 σ22 else f3_cellsOfKind_J32 N g x1 x2 K8 r8 x3 x4 σ22)
def f3_cellsOfKind_L8 (N : Nat) (g : Nat) (x1 : Int32) (x2 : Int32) (K8 : Int32 → Hp → Option (Int32 × Hp)) (n : Nat) : Int32 → Int32 → Hp → Option (Int32 × Hp) :=
  it (fun _ _ _ => none) (f3_cellsOfKind_B8 N g x1 x2 K8) n
def f3_cellsOfKind (N : Nat) (g : Nat) (x1 : Int32) (x2 : Int32) (σ : Hp) : Option (Int32 × Hp) :=
  f3_cellsOfKind_L8 N g x1 x2 (fun x3_8 σL8 => some (x3_8, σL8)) N 0 (x1 * 120) σ
abbrev rm3_cellsOfKind : Room := { frames := 2, cells := 0, slots := 0, locals := 41 }
def f3_usedCells_J40 (N : Nat) (g : Nat) (x1 : Int32) (x2 : Int32) (K5 : Int32 → Hp → Option (Int32 × Hp)) (r5 : Int32 → Int32 → Hp → Option (Int32 × Hp)) (x3 : Int32) (x4 : Int32) (σ : Hp) : Option (Int32 × Hp) :=
  r5 x3 (x4 + 1) σ
def f3_usedCells_B5 (N : Nat) (g : Nat) (x1 : Int32) (x2 : Int32) (K5 : Int32 → Hp → Option (Int32 × Hp)) (r5 : Int32 → Int32 → Hp → Option (Int32 × Hp)) (x3 : Int32) (x4 : Int32) (σ : Hp) : Option (Int32 × Hp) :=
  if (24 : Int32) ≤ x4 then K5 x3 σ else bd (f5_cellIndex N x1 x2 x4 σ) (fun r17 σ17 => bd (f3_kindAt N g r17 σ17) (fun r20 σ20 => if r20 = 0 then f3_usedCells_J40 N g x1 x2 K5 r5 x3 x4 σ20 else if r20 = (8 : Int32) then f3_usedCells_J40 N g x1 x2 K5 r5 x3 x4 σ20 else f3_usedCells_J40 N g x1 x2 K5 r5 (x3 + 1) x4 σ20))
def f3_usedCells_L5 (N : Nat) (g : Nat) (x1 : Int32) (x2 : Int32) (K5 : Int32 → Hp → Option (Int32 × Hp)) (n : Nat) : Int32 → Int32 → Hp → Option (Int32 × Hp) :=
  it (fun _ _ _ => none) (f3_usedCells_B5 N g x1 x2 K5) n
def f3_usedCells (N : Nat) (g : Nat) (x1 : Int32) (x2 : Int32) (σ : Hp) : Option (Int32 × Hp) :=
  f3_usedCells_L5 N g x1 x2 (fun x3_5 σL5 => some (x3_5, σL5)) N 0 0 σ
abbrev rm3_usedCells : Room := { frames := 2, cells := 0, slots := 0, locals := 41 }
def f3_cellsNotFree_B4 (N : Nat) (g : Nat) (K4 : Int32 → Hp → Option (Int32 × Hp)) (r4 : Int32 → Int32 → Hp → Option (Int32 × Hp)) (x1 : Int32) (x2 : Int32) (σ : Hp) : Option (Int32 × Hp) :=
  if (4 : Int32) ≤ x2 then K4 x1 σ else bd (f3_cellsOfKind N g x2 0 σ) (fun r15 σ15 => r4 (x1 + (120 - r15)) (x2 + 1) σ15)
def f3_cellsNotFree_L4 (N : Nat) (g : Nat) (K4 : Int32 → Hp → Option (Int32 × Hp)) (n : Nat) : Int32 → Int32 → Hp → Option (Int32 × Hp) :=
  it (fun _ _ _ => none) (f3_cellsNotFree_B4 N g K4) n
def f3_cellsNotFree (N : Nat) (g : Nat) (σ : Hp) : Option (Int32 × Hp) :=
  f3_cellsNotFree_L4 N g (fun x1_4 σL4 => some (x1_4, σL4)) N 0 0 σ
abbrev rm3_cellsNotFree : Room := { frames := 3, cells := 0, slots := 0, locals := 65 }
def f3_cellsOfParts_B12 (N : Nat) (g : Nat) (K4 : Int32 → Hp → Option (Int32 × Hp)) (r4 : Int32 → Int32 → Hp → Option (Int32 × Hp)) (x2 : Int32) (K12 : Int32 → Hp → Option (Int32 × Hp)) (r12 : Int32 → Int32 → Hp → Option (Int32 × Hp)) (x1 : Int32) (x3 : Int32) (σ : Hp) : Option (Int32 × Hp) :=
  bd (f3_partCountOf N g x2 σ) (fun r15 σ15 => if r15 ≤ x3 then K12 x1 σ15 else bd (f3_partNumber N g x2 x3 3 σ15) (fun r26 σ26 => bd (f3_partNumber N g x2 x3 4 σ26) (fun r33 σ33 => r12 (x1 + (r26 * r33)) (x3 + 1) σ33)))
def f3_cellsOfParts_L12 (N : Nat) (g : Nat) (K4 : Int32 → Hp → Option (Int32 × Hp)) (r4 : Int32 → Int32 → Hp → Option (Int32 × Hp)) (x2 : Int32) (K12 : Int32 → Hp → Option (Int32 × Hp)) (n : Nat) : Int32 → Int32 → Hp → Option (Int32 × Hp) :=
  it (fun _ _ _ => none) (f3_cellsOfParts_B12 N g K4 r4 x2 K12) n
def f3_cellsOfParts_B4 (N : Nat) (g : Nat) (K4 : Int32 → Hp → Option (Int32 × Hp)) (r4 : Int32 → Int32 → Hp → Option (Int32 × Hp)) (x1 : Int32) (x2 : Int32) (σ : Hp) : Option (Int32 × Hp) :=
  if (12 : Int32) ≤ x2 then K4 x1 σ else f3_cellsOfParts_L12 N g K4 r4 x2 (fun x1_12 σL12 => r4 x1_12 (x2 + 1) σL12) N x1 0 σ
def f3_cellsOfParts_L4 (N : Nat) (g : Nat) (K4 : Int32 → Hp → Option (Int32 × Hp)) (n : Nat) : Int32 → Int32 → Hp → Option (Int32 × Hp) :=
  it (fun _ _ _ => none) (f3_cellsOfParts_B4 N g K4) n
def f3_cellsOfParts (N : Nat) (g : Nat) (σ : Hp) : Option (Int32 × Hp) :=
  f3_cellsOfParts_L4 N g (fun x1_4 σL4 => some (x1_4, σL4)) N 0 0 σ
abbrev rm3_cellsOfParts : Room := { frames := 2, cells := 0, slots := 0, locals := 41 }
def f3_hasSoundLines_B4 (N : Nat) (g : Nat) (x1 : Int32) (K4 : Int32 → Hp → Option (Int32 × Hp)) (r4 : Int32 → Int32 → Hp → Option (Int32 × Hp)) (x2 : Int32) (x3 : Int32) (σ : Hp) : Option (Int32 × Hp) :=
  bd (f3_partCountOf N g x1 σ) (fun r7 σ7 => if r7 ≤ x3 then K4 x2 σ7 else bd (f3_partNumber N g x1 x3 5 σ7) (fun r18 σ18 => r4 (x2 + r18) (x3 + 1) σ18))
def f3_hasSoundLines_L4 (N : Nat) (g : Nat) (x1 : Int32) (K4 : Int32 → Hp → Option (Int32 × Hp)) (n : Nat) : Int32 → Int32 → Hp → Option (Int32 × Hp) :=
  it (fun _ _ _ => none) (f3_hasSoundLines_B4 N g x1 K4) n
def f3_hasSoundLines (N : Nat) (g : Nat) (x1 : Int32) (σ : Hp) : Option (Int32 × Hp) :=
  f3_hasSoundLines_L4 N g x1 (fun x2_4 σL4 => bd (f1_storyNumber N (edOf g) x1 3 σL4) (fun r36 σ36 => bd (f3_linesCut N g x1 σ36) (fun r41 σ41 => if x2_4 = (r36 - r41) then some (1, σ41) else some (0, σ41)))) N 0 0 σ
abbrev rm3_hasSoundLines : Room := { frames := 3, cells := 0, slots := 0, locals := 62 }
def f4_takes_J10 (N : Nat) (x1 : Int32) (x2 : Int32) (y0 : Int32) (y1 : Int32) (σ : Hp) : Option (Int32 × Hp) :=
  if y1 = y0 then some (0, σ) else some (1, σ)
def f4_takes (N : Nat) (x1 : Int32) (x2 : Int32) (σ : Hp) : Option (Int32 × Hp) :=
  if x2 = 0 then f4_takes_J10 N x1 x2 0 x1 σ else f4_takes_J10 N x1 x2 1 x1 σ
abbrev rm4_takes : Room := { frames := 0, cells := 0, slots := 0, locals := 0 }
def f4_isSpot (N : Nat) (x0 : Int32) (σ : Hp) : Option (Int32 × Hp) :=
  if x0 < 0 then some (0, σ) else if (12 : Int32) ≤ x0 then some (0, σ) else some (1, σ)
abbrev rm4_isSpot : Room := { frames := 0, cells := 0, slots := 0, locals := 0 }
def f4_heldAt (N : Nat) (x1 : Int32) (σ : Hp) : Option (Int32 × Hp) :=
  bd (f4_isSpot N x1 σ) (fun r1 σ1 => if r1 = 0 then some (0, σ1) else gd (vib x1 12) (some (σ1 77 x1.toNatClampNeg, σ1)))
abbrev rm4_heldAt : Room := { frames := 1, cells := 0, slots := 0, locals := 20 }
def f4_isEmptyAt (N : Nat) (x1 : Int32) (σ : Hp) : Option (Int32 × Hp) :=
  bd (f4_heldAt N x1 σ) (fun r2 σ2 => if r2 = 0 then some (1, σ2) else some (0, σ2))
abbrev rm4_isEmptyAt : Room := { frames := 2, cells := 0, slots := 0, locals := 41 }
def f4_isStoryAt (N : Nat) (x1 : Int32) (σ : Hp) : Option (Int32 × Hp) :=
  bd (f4_heldAt N x1 σ) (fun r2 σ2 => if r2 = (1 : Int32) then some (1, σ2) else some (0, σ2))
abbrev rm4_isStoryAt : Room := { frames := 2, cells := 0, slots := 0, locals := 41 }
def f4_filledPlaces_J24 (N : Nat) (x1 : Int32) (K4 : Int32 → Hp → Option (Int32 × Hp)) (r4 : Int32 → Int32 → Hp → Option (Int32 × Hp)) (x2 : Int32) (x3 : Int32) (σ : Hp) : Option (Int32 × Hp) :=
  r4 x2 (x3 + 1) σ
def f4_filledPlaces_B4 (N : Nat) (x1 : Int32) (K4 : Int32 → Hp → Option (Int32 × Hp)) (r4 : Int32 → Int32 → Hp → Option (Int32 × Hp)) (x2 : Int32) (x3 : Int32) (σ : Hp) : Option (Int32 × Hp) :=
  if (4 : Int32) ≤ x3 then K4 x2 σ else bd (f4_isEmptyAt N ((x1 * 4) + x3) σ) (fun r15 σ15 => if r15 = 0 then f4_filledPlaces_J24 N x1 K4 r4 (x2 + 1) x3 σ15 else f4_filledPlaces_J24 N x1 K4 r4 x2 x3 σ15)
def f4_filledPlaces_L4 (N : Nat) (x1 : Int32) (K4 : Int32 → Hp → Option (Int32 × Hp)) (n : Nat) : Int32 → Int32 → Hp → Option (Int32 × Hp) :=
  it (fun _ _ _ => none) (f4_filledPlaces_B4 N x1 K4) n
def f4_filledPlaces (N : Nat) (x1 : Int32) (σ : Hp) : Option (Int32 × Hp) :=
  f4_filledPlaces_L4 N x1 (fun x2_4 σL4 => some (x2_4, σL4)) N 0 0 σ
abbrev rm4_filledPlaces : Room := { frames := 3, cells := 0, slots := 0, locals := 62 }
def f4_keepStory_B18 (N : Nat) (o : Nat) (x1 : Int32) (x3 : Int32) (K18 : Hp → Option (Unit × Hp)) (r18 : Int32 → Hp → Option (Unit × Hp)) (x4 : Int32) (σ : Hp) : Option (Unit × Hp) :=
  if (8 : Int32) ≤ x4 then K18 σ else bd (f1_storyNumber N o x3 x4 σ) (fun r40 σ40 => gd (vib ((x1 * 8) + x4) 96) (r18 (x4 + 1) (st σ40 78 ((x1 * 8) + x4).toNatClampNeg r40)))
def f4_keepStory_L18 (N : Nat) (o : Nat) (x1 : Int32) (x3 : Int32) (K18 : Hp → Option (Unit × Hp)) (n : Nat) : Int32 → Hp → Option (Unit × Hp) :=
  it (fun _ _ => none) (f4_keepStory_B18 N o x1 x3 K18) n
def f4_keepStory (N : Nat) (o : Nat) (x1 : Int32) (x3 : Int32) (σ : Hp) : Option (Unit × Hp) :=
  bd (f4_isSpot N x1 σ) (fun r1 σ1 => if r1 = 0 then some ((), σ1) else gd (vib x1 12) (f4_keepStory_L18 N o x1 x3 (fun σL18 => some ((), σL18)) N 0 (st σ1 77 x1.toNatClampNeg 1)))
abbrev rm4_keepStory : Room := { frames := 1, cells := 0, slots := 0, locals := 22 }
def f4_keepAdvertisement_B18 (N : Nat) (o : Nat) (x1 : Int32) (x3 : Int32) (K18 : Hp → Option (Unit × Hp)) (r18 : Int32 → Hp → Option (Unit × Hp)) (x4 : Int32) (σ : Hp) : Option (Unit × Hp) :=
  if (6 : Int32) ≤ x4 then K18 σ else bd (f1_advertisementNumber N o x3 x4 σ) (fun r40 σ40 => gd (vib ((x1 * 8) + x4) 96) (r18 (x4 + 1) (st σ40 78 ((x1 * 8) + x4).toNatClampNeg r40)))
def f4_keepAdvertisement_L18 (N : Nat) (o : Nat) (x1 : Int32) (x3 : Int32) (K18 : Hp → Option (Unit × Hp)) (n : Nat) : Int32 → Hp → Option (Unit × Hp) :=
  it (fun _ _ => none) (f4_keepAdvertisement_B18 N o x1 x3 K18) n
def f4_keepAdvertisement (N : Nat) (o : Nat) (x1 : Int32) (x3 : Int32) (σ : Hp) : Option (Unit × Hp) :=
  bd (f4_isSpot N x1 σ) (fun r1 σ1 => if r1 = 0 then some ((), σ1) else gd (vib x1 12) (f4_keepAdvertisement_L18 N o x1 x3 (fun σL18 => some ((), σL18)) N 0 (st σ1 77 x1.toNatClampNeg 2)))
abbrev rm4_keepAdvertisement : Room := { frames := 2, cells := 0, slots := 0, locals := 42 }
def f4_kept (N : Nat) (x1 : Int32) (x2 : Int32) (σ : Hp) : Option (Int32 × Hp) :=
  bd (f4_isSpot N x1 σ) (fun r1 σ1 => if r1 = 0 then some (0, σ1) else if x2 < 0 then some (0, σ1) else if x2 < (8 : Int32) then gd (vib ((x1 * 8) + x2) 96) (some (σ1 78 ((x1 * 8) + x2).toNatClampNeg, σ1)) else some (0, σ1))
abbrev rm4_kept : Room := { frames := 1, cells := 0, slots := 0, locals := 20 }
def f4_giveStory_J75 (N : Nat) (o : Nat) (x1 : Int32) (x3 : Int32) (y0 : Int32) (y1 : Int32) (σ : Hp) : Option (Int32 × Hp) :=
  bd (f1_putLate N o y1 y0 σ) (fun _ σ75 => some (x3, σ75))
def f4_giveStory (N : Nat) (o : Nat) (x1 : Int32) (σ : Hp) : Option (Int32 × Hp) :=
  bd (f4_kept N x1 0 σ) (fun r4 σ4 => bd (f4_kept N x1 1 σ4) (fun r10 σ10 => bd (f4_kept N x1 2 σ10) (fun r16 σ16 => bd (f4_kept N x1 3 σ16) (fun r22 σ22 => bd (f4_kept N x1 4 σ22) (fun r28 σ28 => bd (f1_putStory N o r4 r10 r16 r22 r28 σ28) (fun r31 σ31 => if r31 = (-1 : Int32) then some (r31, σ31) else bd (f4_kept N x1 5 σ31) (fun r45 σ45 => bd (f4_kept N x1 6 σ45) (fun r52 σ52 => bd (f1_putPhoto N o r31 r45 r52 σ52) (fun _ σ55 => bd (f4_kept N x1 7 σ55) (fun r64 σ64 => if r64 = 0 then f4_giveStory_J75 N o x1 r31 0 r31 σ64 else f4_giveStory_J75 N o x1 r31 1 r31 σ64))))))))))
abbrev rm4_giveStory : Room := { frames := 4, cells := 0, slots := 0, locals := 92 }
def f4_giveAdvertisement (N : Nat) (o : Nat) (x1 : Int32) (σ : Hp) : Option (Int32 × Hp) :=
  bd (f4_kept N x1 0 σ) (fun r3 σ3 => bd (f4_kept N x1 1 σ3) (fun r10 σ10 => bd (f4_kept N x1 2 σ10) (fun r18 σ18 => bd (f4_kept N x1 3 σ18) (fun r26 σ26 => bd (f4_kept N x1 4 σ26) (fun r34 σ34 => bd (f4_kept N x1 5 σ34) (fun r42 σ42 => bd (f1_faultOfAdvertisement N o r3 r10 r18 r26 r34 r42 σ42) (fun r59 σ59 => if r59 = 0 then bd (f1_putAdvertisement N o r3 r10 r18 r26 r34 r42 σ59) (fun r79 σ79 => some (r79, σ79)) else some ((-1), σ59))))))))
abbrev rm4_giveAdvertisement : Room := { frames := 4, cells := 0, slots := 0, locals := 94 }
def f5_refuse (N : Nat) (x0 : Int32) (σ : Hp) : Option ((Unit ⊕ Nat) × Hp) :=
  if x0 = 1 then some (.inr 1, σ) else if x0 = 2 then some (.inr 2, σ) else if x0 = 3 then some (.inr 3, σ) else some (.inl (), σ)
abbrev rm5_refuse : Room := { frames := 6, cells := 1, slots := 6, locals := 81 }
def f5_addAdvertisement (N : Nat) (x1 : Int32) (x2 : Int32) (x3 : Int32) (x4 : Int32) (x5 : Int32) (x6 : Int32) (σ : Hp) : Option ((Int32 ⊕ Nat) × Hp) :=
  bd (f1_faultOfAdvertisement N 1 x1 x2 x3 x4 x5 x6 σ) (fun r13 σ13 => bx (f5_refuse N r13 σ13) (fun _ σ16 => bd (f2_remember N 1 σ16) (fun _ σ27 => bd (f1_putAdvertisement N 1 x1 x2 x3 x4 x5 x6 σ27) (fun r43 σ43 => bd (f3_layOut N 56 σ43) (fun _ σ52 => some (.inl r43, σ52))))))
abbrev rm5_addAdvertisement : Room := { frames := 7, cells := 1, slots := 6, locals := 149 }
def f5_addStory (N : Nat) (x1 : Int32) (x2 : Int32) (x3 : Int32) (x4 : Int32) (x5 : Int32) (σ : Hp) : Option ((Int32 ⊕ Nat) × Hp) :=
  bd (f1_faultOfStory N 1 x1 x2 x3 x4 x5 σ) (fun r11 σ11 => bx (f5_refuse N r11 σ11) (fun _ σ14 => bd (f2_remember N 1 σ14) (fun _ σ25 => bd (f1_putStory N 1 x1 x2 x3 x4 x5 σ25) (fun r39 σ39 => bd (f3_layOut N 56 σ39) (fun _ σ48 => some (.inl r39, σ48))))))
abbrev rm5_addStory : Room := { frames := 7, cells := 1, slots := 6, locals := 149 }
def f5_setPhoto (N : Nat) (x1 : Int32) (x2 : Int32) (x3 : Int32) (σ : Hp) : Option ((Int32 ⊕ Nat) × Hp) :=
  bd (f1_faultOfPhoto N 1 x1 x2 x3 σ) (fun r7 σ7 => bx (f5_refuse N r7 σ7) (fun _ σ10 => bd (f2_remember N 1 σ10) (fun _ σ21 => bd (f1_storyNumber N 1 x1 5 σ21) (fun r30 σ30 => bd (f1_putPhoto N 1 x1 x2 x3 σ30) (fun _ σ42 => bd (f3_layOut N 56 σ42) (fun _ σ49 => some (.inl r30, σ49)))))))
abbrev rm5_setPhoto : Room := { frames := 7, cells := 1, slots := 6, locals := 149 }
def f5_needStory (N : Nat) (x1 : Int32) (σ : Hp) : Option ((Unit ⊕ Nat) × Hp) :=
  bd (f1_hasStory N 1 x1 σ) (fun r5 σ5 => if r5 = 0 then some (.inr 1, σ5) else some (.inl (), σ5))
abbrev rm5_needStory : Room := { frames := 6, cells := 1, slots := 6, locals := 81 }
def f5_setLate (N : Nat) (x1 : Int32) (x2 : Int32) (σ : Hp) : Option ((Int32 ⊕ Nat) × Hp) :=
  bx (f5_needStory N x1 σ) (fun _ σ2 => bd (f2_remember N 1 σ2) (fun _ σ13 => bd (f1_isLate N 1 x1 σ13) (fun r21 σ21 => bd (f1_putLate N 1 x1 x2 σ21) (fun _ σ31 => bd (f3_layOut N 56 σ31) (fun _ σ38 => gd (okB r21) (some (.inl r21, σ38)))))))
abbrev rm5_setLate : Room := { frames := 7, cells := 1, slots := 6, locals := 149 }
def f5_change (N : Nat) (x1 : Int32) (x2 : Int32) (x3 : Int32) (σ : Hp) : Option ((Int32 ⊕ Nat) × Hp) :=
  bx (f5_needStory N x1 σ) (fun _ σ2 => bd (f5_isInRange N x2 x3 σ2) (fun r7 σ7 => if r7 = 0 then some (.inr 2, σ7) else bd (f2_remember N 1 σ7) (fun _ σ29 => bd (f1_storyNumber N 1 x1 x2 σ29) (fun r38 σ38 => bd (f1_putStoryNumber N 1 x1 x2 x3 σ38) (fun _ σ50 => bd (f3_layOut N 56 σ50) (fun _ σ57 => some (.inl r38, σ57)))))))
abbrev rm5_change : Room := { frames := 7, cells := 2, slots := 12, locals := 149 }
def f5_needAdvertisement (N : Nat) (x1 : Int32) (σ : Hp) : Option ((Unit ⊕ Nat) × Hp) :=
  bd (f1_hasAdvertisement N 1 x1 σ) (fun r5 σ5 => if r5 = 0 then some (.inr 1, σ5) else some (.inl (), σ5))
abbrev rm5_needAdvertisement : Room := { frames := 6, cells := 1, slots := 6, locals := 81 }
def f5_needEntry (N : Nat) (x1 : Int32) (x2 : Int32) (σ : Hp) : Option ((Unit ⊕ Nat) × Hp) :=
  if x1 = 0 then bx (f5_needAdvertisement N x2 σ) (fun _ σ14 => some (.inl (), σ14)) else bx (f5_needStory N x2 σ) (fun _ σ6 => some (.inl (), σ6))
abbrev rm5_needEntry : Room := { frames := 7, cells := 1, slots := 6, locals := 102 }
def f5_remove_J40 (N : Nat) (x1 : Int32) (x2 : Int32) (σ : Hp) : Option ((Int32 ⊕ Nat) × Hp) :=
  bd (f3_layOut N 56 σ) (fun _ σ44 => if x1 = 0 then bd (f1_advertisementCount N 1 σ44) (fun r65 σ65 => some (.inl r65, σ65)) else bd (f1_storyCount N 1 σ44) (fun r55 σ55 => some (.inl r55, σ55)))
def f5_remove (N : Nat) (x1 : Int32) (x2 : Int32) (σ : Hp) : Option ((Int32 ⊕ Nat) × Hp) :=
  bx (f5_needEntry N x1 x2 σ) (fun _ σ3 => bd (f2_remember N 1 σ3) (fun _ σ14 => if x1 = 0 then bd (f1_dropAdvertisement N 1 x2 σ14) (fun _ σ37 => f5_remove_J40 N x1 x2 σ37) else bd (f1_dropStory N 1 x2 σ14) (fun _ σ26 => f5_remove_J40 N x1 x2 σ26)))
abbrev rm5_remove : Room := { frames := 8, cells := 1, slots := 6, locals := 149 }
def f5_story_J25 (N : Nat) (x1 : Int32) (x2 : Int32) (σ : Hp) : Option ((Int32 ⊕ Nat) × Hp) :=
  if x2 = 8 then bd (f3_rankOf N 56 x1 σ) (fun r65 σ65 => some (.inl r65, σ65)) else if x2 = 9 then bd (f3_startPageOf N 56 x1 σ) (fun r74 σ74 => some (.inl r74, σ74)) else if x2 = 10 then bd (f3_partCountOf N 56 x1 σ) (fun r83 σ83 => some (.inl r83, σ83)) else if x2 = 11 then bd (f3_linesOnPages N 56 x1 σ) (fun r92 σ92 => some (.inl r92, σ92)) else if x2 = 12 then bd (f3_linesCut N 56 x1 σ) (fun r101 σ101 => some (.inl r101, σ101)) else some (.inr 2, σ)
def f5_story (N : Nat) (x1 : Int32) (x2 : Int32) (σ : Hp) : Option ((Int32 ⊕ Nat) × Hp) :=
  bx (f5_needStory N x1 σ) (fun _ σ2 => if x2 < 0 then f5_story_J25 N x1 x2 σ2 else if (8 : Int32) ≤ x2 then f5_story_J25 N x1 x2 σ2 else bd (f1_storyNumber N 1 x1 x2 σ2) (fun r21 σ21 => some (.inl r21, σ21)))
abbrev rm5_story : Room := { frames := 7, cells := 2, slots := 12, locals := 102 }
def f5_advertisement_J25 (N : Nat) (x1 : Int32) (x2 : Int32) (σ : Hp) : Option ((Int32 ⊕ Nat) × Hp) :=
  if x2 = (6 : Int32) then bd (f1_priceOfCells N 1 x1 σ) (fun r44 σ44 => some (.inl r44, σ44)) else some (.inr 2, σ)
def f5_advertisement (N : Nat) (x1 : Int32) (x2 : Int32) (σ : Hp) : Option ((Int32 ⊕ Nat) × Hp) :=
  bx (f5_needAdvertisement N x1 σ) (fun _ σ2 => if x2 < 0 then f5_advertisement_J25 N x1 x2 σ2 else if (6 : Int32) ≤ x2 then f5_advertisement_J25 N x1 x2 σ2 else bd (f1_advertisementNumber N 1 x1 x2 σ2) (fun r21 σ21 => some (.inl r21, σ21)))
abbrev rm5_advertisement : Room := { frames := 7, cells := 2, slots := 12, locals := 102 }
def f5_needCell (N : Nat) (x0 : Int32) (x1 : Int32) (x2 : Int32) (σ : Hp) : Option ((Unit ⊕ Nat) × Hp) :=
  bd (f5_isPage N x0 σ) (fun r1 σ1 => if r1 = 0 then some (.inr 1, σ1) else if x1 < 0 then some (.inr 1, σ1) else if (5 : Int32) ≤ x1 then some (.inr 1, σ1) else if x2 < 0 then some (.inr 1, σ1) else if x2 < (24 : Int32) then some (.inl (), σ1) else some (.inr 1, σ1))
abbrev rm5_needCell : Room := { frames := 6, cells := 1, slots := 6, locals := 81 }
def f5_cell (N : Nat) (x1 : Int32) (x2 : Int32) (x3 : Int32) (σ : Hp) : Option ((Int32 ⊕ Nat) × Hp) :=
  bx (f5_needCell N x1 x2 x3 σ) (fun _ σ3 => bd (f5_cellIndex N x1 x2 x3 σ3) (fun r13 σ13 => bd (f3_kindAt N 56 r13 σ13) (fun r16 σ16 => some (.inl r16, σ16))))
abbrev rm5_cell : Room := { frames := 7, cells := 1, slots := 6, locals := 103 }
def f5_owner (N : Nat) (x1 : Int32) (x2 : Int32) (x3 : Int32) (σ : Hp) : Option ((Int32 ⊕ Nat) × Hp) :=
  bx (f5_needCell N x1 x2 x3 σ) (fun _ σ3 => bd (f5_cellIndex N x1 x2 x3 σ3) (fun r9 σ9 => bd (f3_kindAt N 56 r9 σ9) (fun r20 σ20 => if r20 = 0 then some (.inr 4, σ20) else bd (f3_ownerAt N 56 r9 σ20) (fun r40 σ40 => some (.inl r40, σ40)))))
abbrev rm5_owner : Room := { frames := 7, cells := 2, slots := 12, locals := 103 }
def f5_part (N : Nat) (x1 : Int32) (x2 : Int32) (x3 : Int32) (σ : Hp) : Option ((Int32 ⊕ Nat) × Hp) :=
  bx (f5_needStory N x1 σ) (fun _ σ2 => if x2 < 0 then some (.inr 1, σ2) else bd (f3_partCountOf N 56 x1 σ2) (fun r15 σ15 => if x2 < r15 then if x3 < 0 then some (.inr 2, σ15) else if x3 ≤ (7 : Int32) then bd (f3_partNumber N 56 x1 x2 x3 σ15) (fun r54 σ54 => some (.inl r54, σ54)) else some (.inr 2, σ15) else some (.inr 1, σ15)))
abbrev rm5_part : Room := { frames := 7, cells := 2, slots := 12, locals := 102 }
def f5_locate (N : Nat) (x1 : Int32) (x2 : Int32) (σ : Hp) : Option ((Int32 ⊕ Nat) × Hp) :=
  bx (f5_needStory N x1 σ) (fun _ σ2 => if x2 < 0 then some (.inr 1, σ2) else bd (f1_storyNumber N 1 x1 3 σ2) (fun r16 σ16 => if x2 < r16 then bd (f3_cellOfLine N 56 x1 x2 σ16) (fun r36 σ36 => if r36 = (-1 : Int32) then some (.inr 4, σ36) else bd (f5_pageOf N r36 σ36) (fun r57 σ57 => bd (f5_columnOf N r36 σ57) (fun r64 σ64 => bd (f5_rowOf N r36 σ64) (fun r70 σ70 => some (.inl (((1000 * r57) + (100 * r64)) + r70), σ70))))) else some (.inr 1, σ16)))
abbrev rm5_locate : Room := { frames := 7, cells := 2, slots := 12, locals := 120 }
def f5_ranked (N : Nat) (x1 : Int32) (σ : Hp) : Option ((Int32 ⊕ Nat) × Hp) :=
  if x1 < 0 then some (.inr 1, σ) else bd (f1_storyCount N 1 σ) (fun r9 σ9 => if x1 < r9 then bd (f3_storyOfRank N 56 x1 σ9) (fun r28 σ28 => some (.inl r28, σ28)) else some (.inr 1, σ9))
abbrev rm5_ranked : Room := { frames := 6, cells := 1, slots := 6, locals := 81 }
def f5_fate (N : Nat) (x1 : Int32) (σ : Hp) : Option ((Int32 ⊕ Nat) × Hp) :=
  bx (f5_needStory N x1 σ) (fun _ σ2 => bd (f3_isLeftOut N 56 x1 σ2) (fun r10 σ10 => if r10 = 0 then bd (f3_isBumped N 56 x1 σ10) (fun r23 σ23 => if r23 = 0 then bd (f3_linesCut N 56 x1 σ23) (fun r36 σ36 => if r36 ≤ 0 then some (.inl 0, σ36) else some (.inl 1, σ36)) else some (.inl 2, σ23)) else some (.inl 3, σ10)))
abbrev rm5_fate : Room := { frames := 7, cells := 1, slots := 6, locals := 104 }
def f5_blamed_B35 (N : Nat) (x1 : Int32) (K35 : Hp → Option ((Int32 ⊕ Nat) × Hp)) (r35 : Int32 → Hp → Option ((Int32 ⊕ Nat) × Hp)) (x2 : Int32) (σ : Hp) : Option ((Int32 ⊕ Nat) × Hp) :=
  if x2 < 0 then K35 σ else bd (f3_storyOfRank N 56 x2 σ) (fun r44 σ44 => bd (f1_copyFrom N 6 1 σ44) (fun _ σ56 => bd (f1_dropStory N 6 r44 σ56) (fun _ σ64 => bd (f3_layOut N 65 σ64) (fun _ σ71 => bd (f3_startsOnOwnPage N 65 x1 σ71) (fun r79 σ79 => if r79 = 0 then r35 (x2 + (-1)) σ79 else some (.inl r44, σ79))))))
def f5_blamed_L35 (N : Nat) (x1 : Int32) (K35 : Hp → Option ((Int32 ⊕ Nat) × Hp)) (n : Nat) : Int32 → Hp → Option ((Int32 ⊕ Nat) × Hp) :=
  it (fun _ _ => none) (f5_blamed_B35 N x1 K35) n
def f5_blamed (N : Nat) (x1 : Int32) (σ : Hp) : Option ((Int32 ⊕ Nat) × Hp) :=
  bx (f5_needStory N x1 σ) (fun _ σ2 => bd (f3_startsOnOwnPage N 56 x1 σ2) (fun r10 σ10 => if r10 = 0 then bd (f3_rankOf N 56 x1 σ10) (fun r29 σ29 => f5_blamed_L35 N x1 (fun σL35 => some (.inr 4, σL35)) N (r29 - 1) σ29) else some (.inr 4, σ10)))
abbrev rm5_blamed : Room := { frames := 7, cells := 2, slots := 12, locals := 149 }
def f5_linesIf (N : Nat) (x1 : Int32) (x2 : Int32) (σ : Hp) : Option ((Int32 ⊕ Nat) × Hp) :=
  bx (f5_needStory N x1 σ) (fun _ σ2 => bd (f1_copyFrom N 6 1 σ2) (fun _ σ13 => bd (f1_putLate N 6 x1 x2 σ13) (fun _ σ22 => bd (f3_layOut N 65 σ22) (fun _ σ29 => bd (f3_linesOnPages N 65 x1 σ29) (fun r37 σ37 => some (.inl r37, σ37))))))
abbrev rm5_linesIf : Room := { frames := 7, cells := 1, slots := 6, locals := 149 }
def f5_trim (N : Nat) (x1 : Int32) (σ : Hp) : Option ((Int32 ⊕ Nat) × Hp) :=
  bx (f5_needStory N x1 σ) (fun _ σ2 => bd (f3_isLeftOut N 56 x1 σ2) (fun r10 σ10 => if r10 = 0 then bd (f1_storyNumber N 1 x1 3 σ10) (fun r31 σ31 => bd (f3_linesAtStart N 56 x1 σ31) (fun r39 σ39 => some (.inl (if (0 : Int32) < (r31 - r39) then (r31 - r39) else (0 : Int32)), σ39))) else some (.inr 4, σ10)))
abbrev rm5_trim : Room := { frames := 7, cells := 2, slots := 12, locals := 102 }
def f5_count (N : Nat) (x1 : Int32) (σ : Hp) : Option ((Int32 ⊕ Nat) × Hp) :=
  if x1 = 0 then bd (f1_storyCount N 1 σ) (fun r52 σ52 => some (.inl r52, σ52)) else if x1 = 1 then bd (f1_advertisementCount N 1 σ) (fun r60 σ60 => some (.inl r60, σ60)) else if x1 = 2 then bd (f3_leftOutCount N 56 σ) (fun r68 σ68 => some (.inl r68, σ68)) else if x1 = 3 then bd (f3_bumpedCount N 56 σ) (fun r76 σ76 => some (.inl r76, σ76)) else if x1 = 4 then bd (f3_jumpCount N 56 σ) (fun r84 σ84 => some (.inl r84, σ84)) else if x1 = 5 then bd (f3_allLinesOnPages N 56 σ) (fun r92 σ92 => some (.inl r92, σ92)) else if x1 = 6 then bd (f3_allLinesCut N 56 σ) (fun r100 σ100 => some (.inl r100, σ100)) else if x1 = 7 then bd (f1_allPrices N 1 σ) (fun r108 σ108 => some (.inl r108, σ108)) else some (.inr 2, σ)
abbrev rm5_count : Room := { frames := 6, cells := 1, slots := 6, locals := 126 }
def f5_needPage (N : Nat) (x0 : Int32) (σ : Hp) : Option ((Unit ⊕ Nat) × Hp) :=
  bd (f5_isPage N x0 σ) (fun r1 σ1 => if r1 = 0 then some (.inr 1, σ1) else some (.inl (), σ1))
abbrev rm5_needPage : Room := { frames := 6, cells := 1, slots := 6, locals := 81 }
def f5_cellCount (N : Nat) (x1 : Int32) (x2 : Int32) (σ : Hp) : Option ((Int32 ⊕ Nat) × Hp) :=
  bx (f5_needPage N x1 σ) (fun _ σ1 => if x2 < 0 then some (.inr 2, σ1) else if x2 ≤ (8 : Int32) then bd (f3_cellsOfKind N 56 x1 x2 σ1) (fun r28 σ28 => some (.inl r28, σ28)) else some (.inr 2, σ1))
abbrev rm5_cellCount : Room := { frames := 7, cells := 2, slots := 12, locals := 101 }
def f5_isSound_J59 (N : Nat) (K29 : Hp → Option (Int32 × Hp)) (r29 : Int32 → Hp → Option (Int32 × Hp)) (x1 : Int32) (σ : Hp) : Option (Int32 × Hp) :=
  r29 (x1 + 1) σ
def f5_isSound_B29 (N : Nat) (K29 : Hp → Option (Int32 × Hp)) (r29 : Int32 → Hp → Option (Int32 × Hp)) (x1 : Int32) (σ : Hp) : Option (Int32 × Hp) :=
  if (12 : Int32) ≤ x1 then K29 σ else bd (f1_hasStory N 1 x1 σ) (fun r40 σ40 => if r40 = 0 then f5_isSound_J59 N K29 r29 x1 σ40 else bd (f3_hasSoundLines N 56 x1 σ40) (fun r51 σ51 => if r51 = 0 then some (0, σ51) else f5_isSound_J59 N K29 r29 x1 σ51))
def f5_isSound_L29 (N : Nat) (K29 : Hp → Option (Int32 × Hp)) (n : Nat) : Int32 → Hp → Option (Int32 × Hp) :=
  it (fun _ _ => none) (f5_isSound_B29 N K29) n
def f5_isSound (N : Nat) (σ : Hp) : Option (Int32 × Hp) :=
  bd (f3_cellsOfParts N 56 σ) (fun r4 σ4 => bd (f1_cellsOfAdvertisements N 1 σ4) (fun r11 σ11 => bd (f3_cellsNotFree N 56 σ11) (fun r19 σ19 => if (r4 + r11) = r19 then f5_isSound_L29 N (fun σL29 => some (1, σL29)) N 0 σ19 else some (0, σ19))))
abbrev rm5_isSound : Room := { frames := 4, cells := 0, slots := 0, locals := 87 }
def f5_needShelfPlace (N : Nat) (x0 : Int32) (x1 : Int32) (σ : Hp) : Option ((Unit ⊕ Nat) × Hp) :=
  if x0 < 0 then some (.inr 1, σ) else if (3 : Int32) ≤ x0 then some (.inr 1, σ) else if x1 < 0 then some (.inr 1, σ) else if x1 < (4 : Int32) then some (.inl (), σ) else some (.inr 1, σ)
abbrev rm5_needShelfPlace : Room := { frames := 6, cells := 1, slots := 6, locals := 81 }
def f5_layDown_J76 (N : Nat) (x1 : Int32) (x2 : Int32) (x3 : Int32) (x4 : Int32) (σ : Hp) : Option ((Int32 ⊕ Nat) × Hp) :=
  bd (f4_filledPlaces N x1 σ) (fun r81 σ81 => some (.inl r81, σ81))
def f5_layDown (N : Nat) (x1 : Int32) (x2 : Int32) (x3 : Int32) (x4 : Int32) (σ : Hp) : Option ((Int32 ⊕ Nat) × Hp) :=
  bx (f5_needShelfPlace N x1 x2 σ) (fun _ σ2 => bx (f5_needEntry N x3 x4 σ2) (fun _ σ9 => bd (f4_takes N x1 x3 σ9) (fun r18 σ18 => if r18 = 0 then some (.inr 5, σ18) else if x3 = 0 then bd (f4_keepAdvertisement N 1 ((x1 * 4) + x2) x4 σ18) (fun _ σ73 => f5_layDown_J76 N x1 x2 x3 x4 σ73) else bd (f4_keepStory N 1 ((x1 * 4) + x2) x4 σ18) (fun _ σ55 => f5_layDown_J76 N x1 x2 x3 x4 σ55))))
abbrev rm5_layDown : Room := { frames := 8, cells := 3, slots := 18, locals := 124 }
def f5_takeUp_J79 (N : Nat) (x1 : Int32) (x2 : Int32) (y0 : Int32) (σ : Hp) : Option ((Int32 ⊕ Nat) × Hp) :=
  if y0 = (-1 : Int32) then some (.inr 3, σ) else bd (f2_remember N 1 σ) (fun _ σ103 => bd (f1_copyFrom N 1 6 σ103) (fun _ σ114 => bd (f3_layOut N 56 σ114) (fun _ σ121 => some (.inl y0, σ121))))
def f5_takeUp (N : Nat) (x1 : Int32) (x2 : Int32) (σ : Hp) : Option ((Int32 ⊕ Nat) × Hp) :=
  bx (f5_needShelfPlace N x1 x2 σ) (fun _ σ2 => bd (f4_isEmptyAt N ((x1 * 4) + x2) σ2) (fun r16 σ16 => if r16 = 0 then bd (f1_copyFrom N 6 1 σ16) (fun _ σ38 => bd (f4_isStoryAt N ((x1 * 4) + x2) σ38) (fun r46 σ46 => if r46 = 0 then bd (f4_giveAdvertisement N 6 ((x1 * 4) + x2) σ46) (fun r76 σ76 => f5_takeUp_J79 N x1 x2 r76 σ76) else bd (f4_giveStory N 6 ((x1 * 4) + x2) σ46) (fun r61 σ61 => f5_takeUp_J79 N x1 x2 r61 σ61))) else some (.inr 4, σ16)))
abbrev rm5_takeUp : Room := { frames := 7, cells := 2, slots := 12, locals := 149 }
def f5_feed (N : Nat) (x1 : Int32) (σ : Hp) : Option ((Int32 ⊕ Nat) × Hp) :=
  bd (f0_isFull N σ) (fun r4 σ4 => if r4 = 0 then bd (f0_append N x1 σ4) (fun r23 σ23 => some (.inl r23, σ23)) else some (.inr 3, σ4))
abbrev rm5_feed : Room := { frames := 6, cells := 1, slots := 6, locals := 81 }
def f5_carryOutStory (N : Nat) (x1 : Int32) (σ : Hp) : Option (Int32 × Hp) :=
  bd (f0_numberOf N x1 0 σ) (fun r6 σ6 => bd (f0_numberOf N x1 1 σ6) (fun r16 σ16 => bd (f0_numberOf N x1 2 σ16) (fun r26 σ26 => bd (f0_numberOf N x1 3 σ26) (fun r37 σ37 => bd (f0_numberOf N x1 4 σ37) (fun r48 σ48 => bd (f1_faultOfStory N 6 r6 r16 r26 r37 r48 σ48) (fun r65 σ65 => if r65 = 0 then bd (f1_putStory N 6 r6 r16 r26 r37 r48 σ65) (fun r87 σ87 => some (r65, σ87)) else some (r65, σ65)))))))
abbrev rm5_carryOutStory : Room := { frames := 4, cells := 0, slots := 0, locals := 92 }
def f5_carryOutAdvertisement (N : Nat) (x1 : Int32) (σ : Hp) : Option (Int32 × Hp) :=
  bd (f0_numberOf N x1 0 σ) (fun r6 σ6 => bd (f0_numberOf N x1 1 σ6) (fun r16 σ16 => bd (f0_numberOf N x1 2 σ16) (fun r26 σ26 => bd (f0_numberOf N x1 3 σ26) (fun r37 σ37 => bd (f0_numberOf N x1 4 σ37) (fun r48 σ48 => bd (f0_numberOf N x1 5 σ48) (fun r59 σ59 => bd (f1_faultOfAdvertisement N 6 r6 r16 r26 r37 r48 r59 σ59) (fun r78 σ78 => if r78 = 0 then bd (f1_putAdvertisement N 6 r6 r16 r26 r37 r48 r59 σ78) (fun r102 σ102 => some (r78, σ102)) else some (r78, σ78))))))))
abbrev rm5_carryOutAdvertisement : Room := { frames := 4, cells := 0, slots := 0, locals := 94 }
def f5_carryOutPhoto (N : Nat) (x1 : Int32) (σ : Hp) : Option (Int32 × Hp) :=
  bd (f0_numberOf N x1 0 σ) (fun r6 σ6 => bd (f0_numberOf N x1 1 σ6) (fun r16 σ16 => bd (f0_numberOf N x1 2 σ16) (fun r26 σ26 => bd (f1_faultOfPhoto N 6 r6 r16 r26 σ26) (fun r39 σ39 => if r39 = 0 then bd (f1_putPhoto N 6 r6 r16 r26 σ39) (fun _ σ57 => some (r39, σ57)) else some (r39, σ39)))))
abbrev rm5_carryOutPhoto : Room := { frames := 3, cells := 0, slots := 0, locals := 66 }
def f5_carryOutLate_J45 (N : Nat) (x1 : Int32) (y0 : Int32) (y1 : Int32) (σ : Hp) : Option (Int32 × Hp) :=
  bd (f1_putLate N 6 y1 y0 σ) (fun _ σ45 => some (0, σ45))
def f5_carryOutLate (N : Nat) (x1 : Int32) (σ : Hp) : Option (Int32 × Hp) :=
  bd (f0_numberOf N x1 0 σ) (fun r6 σ6 => bd (f1_hasStory N 6 r6 σ6) (fun r15 σ15 => if r15 = 0 then some (1, σ15) else bd (f0_numberOf N x1 1 σ15) (fun r34 σ34 => if r34 = 0 then f5_carryOutLate_J45 N x1 0 r6 σ34 else f5_carryOutLate_J45 N x1 1 r6 σ34)))
abbrev rm5_carryOutLate : Room := { frames := 3, cells := 0, slots := 0, locals := 65 }
def f5_carryOut (N : Nat) (x1 : Int32) (σ : Hp) : Option (Int32 × Hp) :=
  bd (f0_letterOf N x1 σ) (fun r5 σ5 => if r5 = 97 then bd (f5_carryOutAdvertisement N x1 σ5) (fun r52 σ52 => some (r52, σ52)) else if r5 = 112 then bd (f5_carryOutPhoto N x1 σ5) (fun r58 σ58 => some (r58, σ58)) else if r5 = 115 then bd (f5_carryOutStory N x1 σ5) (fun r46 σ46 => some (r46, σ46)) else bd (f5_carryOutLate N x1 σ5) (fun r64 σ64 => some (r64, σ64)))
abbrev rm5_carryOut : Room := { frames := 5, cells := 0, slots := 0, locals := 122 }
def f5_perform_B31 (N : Nat) (K31 : Hp → Option ((Int32 ⊕ Nat) × Hp)) (r31 : Int32 → Hp → Option ((Int32 ⊕ Nat) × Hp)) (x2 : Int32) (σ : Hp) : Option ((Int32 ⊕ Nat) × Hp) :=
  bd (f0_commandCount N σ) (fun r36 σ36 => if r36 ≤ x2 then K31 σ36 else bd (f5_carryOut N x2 σ36) (fun r44 σ44 => if r44 = 0 then r31 (x2 + 1) σ44 else some (.inr 5, (st (st (st σ44 0 9 1) 0 10 x2) 0 11 r44))))
def f5_perform_L31 (N : Nat) (K31 : Hp → Option ((Int32 ⊕ Nat) × Hp)) (n : Nat) : Int32 → Hp → Option ((Int32 ⊕ Nat) × Hp) :=
  it (fun _ _ => none) (f5_perform_B31 N K31) n
def f5_perform (N : Nat) (σ : Hp) : Option ((Int32 ⊕ Nat) × Hp) :=
  bd (f0_parseAndEmpty N σ) (fun r4 σ4 => if r4 = (-1 : Int32) then bd (f1_copyFrom N 6 1 σ4) (fun _ σ26 => f5_perform_L31 N (fun σL31 => bd (f2_remember N 1 σL31) (fun _ σ89 => bd (f1_copyFrom N 1 6 σ89) (fun _ σ100 => bd (f3_layOut N 56 σ100) (fun _ σ107 => bd (f0_commandCount N σ107) (fun r114 σ114 => some (.inl r114, σ114)))))) N 0 σ26) else some (.inl ((-100) - r4), σ4))
abbrev rm5_perform : Room := { frames := 6, cells := 1, slots := 6, locals := 149 }
def f5_report (N : Nat) (x1 : Int32) (x2 : Int32) (σ : Hp) : Option ((Int32 ⊕ Nat) × Hp) :=
  if (σ 0 9) = 0 then some (.inr 4, σ) else if x1 < 0 then some (.inr 4, σ) else if x1 ≤ (1 : Int32) then if x2 < 0 then some (.inr 2, σ) else if x2 ≤ (1 : Int32) then if x2 = 0 then some (.inl (x1 + 1), σ) else if x1 = 0 then some (.inl (σ 0 10), σ) else some (.inl (σ 0 11), σ) else some (.inr 2, σ) else some (.inr 4, σ)
abbrev rm5_report : Room := { frames := 6, cells := 1, slots := 6, locals := 81 }
def f5_undo (N : Nat) (σ : Hp) : Option ((Int32 ⊕ Nat) × Hp) :=
  bd (f2_isEmpty N σ) (fun r4 σ4 => if r4 = 0 then bd (f2_takeBack N 1 σ4) (fun r26 σ26 => bd (f3_layOut N 56 σ26) (fun _ σ34 => some (.inl r26, σ34))) else some (.inr 3, σ4))
abbrev rm5_undo : Room := { frames := 6, cells := 1, slots := 6, locals := 149 }
def f5_save (N : Nat) (σ : Hp) : Option (Int32 × Hp) :=
  bd (f1_copyFrom N 11 1 σ) (fun _ σ8 => bd (f1_storyCount N 1 (st σ8 0 8 1)) (fun r20 σ20 => some (r20, σ20)))
abbrev rm5_save : Room := { frames := 1, cells := 0, slots := 0, locals := 22 }
def f5_restore (N : Nat) (σ : Hp) : Option ((Int32 ⊕ Nat) × Hp) :=
  if (σ 0 8) = 0 then some (.inr 3, σ) else bd (f1_copyFrom N 1 11 σ) (fun _ σ23 => bd (f2_forget N σ23) (fun _ σ30 => bd (f3_layOut N 56 σ30) (fun _ σ37 => bd (f1_storyCount N 1 σ37) (fun r44 σ44 => some (.inl r44, σ44)))))
abbrev rm5_restore : Room := { frames := 6, cells := 1, slots := 6, locals := 149 }
def f6_thrown (N : Nat) (σ : Hp) : Option (Int32 × Hp) :=
  some (σ 84 0, σ)
abbrev rm6_thrown : Room := { frames := 0, cells := 0, slots := 0, locals := 0 }
def f6_in (N : Nat) (x0 : Int32) (x1 : Int32) (x2 : Int32) (σ : Hp) : Option (Int32 × Hp) :=
  if x0 < x1 then some (0, σ) else if x2 < x0 then some (0, σ) else some (1, σ)
abbrev rm6_in : Room := { frames := 0, cells := 0, slots := 0, locals := 0 }
def f6_fails (N : Nat) (x1 : Int32) (σ : Hp) : Option (Int32 × Hp) :=
  some (0, (st σ 84 0 x1))
abbrev rm6_fails : Room := { frames := 0, cells := 0, slots := 0, locals := 0 }
def f6_copies_B3 (N : Nat) (a0 : Nat) (na0 : Nat) (a1 : Nat) (na1 : Nat) (x1 : Int32) (x3 : Int32) (K3 : Hp → Option (Unit × Hp)) (r3 : Int32 → Hp → Option (Unit × Hp)) (x4 : Int32) (σ : Hp) : Option (Unit × Hp) :=
  if (166 : Int32) ≤ x4 then K3 σ else gd (vib (x1 + x4) na0) (gd (vib (x3 + x4) na1) (r3 (x4 + 1) (st σ a1 (x3 + x4).toNatClampNeg (σ a0 (x1 + x4).toNatClampNeg))))
def f6_copies_L3 (N : Nat) (a0 : Nat) (na0 : Nat) (a1 : Nat) (na1 : Nat) (x1 : Int32) (x3 : Int32) (K3 : Hp → Option (Unit × Hp)) (n : Nat) : Int32 → Hp → Option (Unit × Hp) :=
  it (fun _ _ => none) (f6_copies_B3 N a0 na0 a1 na1 x1 x3 K3) n
def f6_copies (N : Nat) (a0 : Nat) (na0 : Nat) (a1 : Nat) (na1 : Nat) (x1 : Int32) (x3 : Int32) (σ : Hp) : Option (Unit × Hp) :=
  f6_copies_L3 N a0 na0 a1 na1 x1 x3 (fun σL3 => some ((), σL3)) N 0 σ
abbrev rm6_copies : Room := { frames := 0, cells := 0, slots := 0, locals := 0 }
def f6_keeps (N : Nat) (σ : Hp) : Option (Unit × Hp) :=
  bd (f6_copies N 85 166 86 166 0 0 σ) (fun _ σ10 => some ((), σ10))
abbrev rm6_keeps : Room := { frames := 1, cells := 0, slots := 0, locals := 24 }
def f6_changes_J56 (N : Nat) (σ : Hp) : Option (Unit × Hp) :=
  bd (f6_copies N 86 166 88 1328 0 (166 * (σ 84 5)) σ) (fun _ σ73 => some ((), (st σ73 84 5 ((σ73 84 5) + 1))))
def f6_changes_B11 (N : Nat) (K11 : Hp → Option (Unit × Hp)) (r11 : Int32 → Hp → Option (Unit × Hp)) (x1 : Int32) (σ : Hp) : Option (Unit × Hp) :=
  if (8 : Int32) ≤ x1 then K11 σ else bd (f6_copies N 88 1328 88 1328 (166 * x1) (166 * (x1 - 1)) σ) (fun _ σ37 => r11 (x1 + 1) σ37)
def f6_changes_L11 (N : Nat) (K11 : Hp → Option (Unit × Hp)) (n : Nat) : Int32 → Hp → Option (Unit × Hp) :=
  it (fun _ _ => none) (f6_changes_B11 N K11) n
def f6_changes (N : Nat) (σ : Hp) : Option (Unit × Hp) :=
  if (σ 84 5) = (8 : Int32) then f6_changes_L11 N (fun σL11 => f6_changes_J56 N (st σL11 84 5 ((σL11 84 5) - 1))) N 1 σ else f6_changes_J56 N σ
abbrev rm6_changes : Room := { frames := 1, cells := 0, slots := 0, locals := 24 }
def f6_of (N : Nat) (x1 : Int32) (x2 : Int32) (σ : Hp) : Option (Int32 × Hp) :=
  gd (vib ((2 + (9 * x1)) + x2) 166) (some (σ 85 ((2 + (9 * x1)) + x2).toNatClampNeg, σ))
abbrev rm6_of : Room := { frames := 0, cells := 0, slots := 0, locals := 0 }
def f6_ad (N : Nat) (x1 : Int32) (x2 : Int32) (σ : Hp) : Option (Int32 × Hp) :=
  gd (vib ((110 + (7 * x1)) + x2) 166) (some (σ 85 ((110 + (7 * x1)) + x2).toNatClampNeg, σ))
abbrev rm6_ad : Room := { frames := 0, cells := 0, slots := 0, locals := 0 }
def f6_isStory (N : Nat) (x1 : Int32) (σ : Hp) : Option (Int32 × Hp) :=
  bd (f6_in N x1 0 11 σ) (fun r4 σ4 => if r4 = 0 then some (0, σ4) else bd (f6_of N x1 0 σ4) (fun r13 σ13 => if r13 = (1 : Int32) then some (1, σ13) else some (0, σ13)))
abbrev rm6_isStory : Room := { frames := 1, cells := 0, slots := 0, locals := 22 }
def f6_isAd (N : Nat) (x1 : Int32) (σ : Hp) : Option (Int32 × Hp) :=
  bd (f6_in N x1 0 7 σ) (fun r4 σ4 => if r4 = 0 then some (0, σ4) else bd (f6_ad N x1 0 σ4) (fun r13 σ13 => if r13 = (1 : Int32) then some (1, σ13) else some (0, σ13)))
abbrev rm6_isAd : Room := { frames := 1, cells := 0, slots := 0, locals := 22 }
def f6_hits_J114 (N : Nat) (x1 : Int32) (x2 : Int32) (x3 : Int32) (x4 : Int32) (x5 : Int32) (K3 : Hp → Option (Int32 × Hp)) (r3 : Int32 → Hp → Option (Int32 × Hp)) (x6 : Int32) (σ : Hp) : Option (Int32 × Hp) :=
  r3 (x6 + 1) σ
def f6_hits_J72 (N : Nat) (x1 : Int32) (x2 : Int32) (x3 : Int32) (x4 : Int32) (x5 : Int32) (K3 : Hp → Option (Int32 × Hp)) (r3 : Int32 → Hp → Option (Int32 × Hp)) (x6 : Int32) (y0 : Int32) (σ : Hp) : Option (Int32 × Hp) :=
  if y0 = 0 then bd (f6_ad N x6 3 σ) (fun r84 σ84 => bd (f6_ad N x6 5 σ84) (fun r91 σ91 => if (r84 + r91) ≤ x3 then f6_hits_J114 N x1 x2 x3 x4 x5 K3 r3 x6 σ91 else bd (f6_ad N x6 3 σ91) (fun r102 σ102 => if (x3 + x5) ≤ r102 then f6_hits_J114 N x1 x2 x3 x4 x5 K3 r3 x6 σ102 else some (1, σ102)))) else f6_hits_J114 N x1 x2 x3 x4 x5 K3 r3 x6 σ
def f6_hits_J67 (N : Nat) (x1 : Int32) (x2 : Int32) (x3 : Int32) (x4 : Int32) (x5 : Int32) (K3 : Hp → Option (Int32 × Hp)) (r3 : Int32 → Hp → Option (Int32 × Hp)) (x6 : Int32) (σ : Hp) : Option (Int32 × Hp) :=
  f6_hits_J72 N x1 x2 x3 x4 x5 K3 r3 x6 1 σ
def f6_hits_B3 (N : Nat) (x1 : Int32) (x2 : Int32) (x3 : Int32) (x4 : Int32) (x5 : Int32) (K3 : Hp → Option (Int32 × Hp)) (r3 : Int32 → Hp → Option (Int32 × Hp)) (x6 : Int32) (σ : Hp) : Option (Int32 × Hp) :=
  if (8 : Int32) ≤ x6 then K3 σ else bd (f6_ad N x6 0 σ) (fun r14 σ14 => if r14 = 0 then f6_hits_J114 N x1 x2 x3 x4 x5 K3 r3 x6 σ14 else bd (f6_ad N x6 1 σ14) (fun r24 σ24 => if r24 = x1 then bd (f6_ad N x6 2 σ24) (fun r42 σ42 => if (x2 + x4) ≤ r42 then f6_hits_J67 N x1 x2 x3 x4 x5 K3 r3 x6 σ42 else bd (f6_ad N x6 2 σ42) (fun r52 σ52 => bd (f6_ad N x6 4 σ52) (fun r59 σ59 => if x2 < (r52 + r59) then f6_hits_J72 N x1 x2 x3 x4 x5 K3 r3 x6 0 σ59 else f6_hits_J67 N x1 x2 x3 x4 x5 K3 r3 x6 σ59))) else f6_hits_J114 N x1 x2 x3 x4 x5 K3 r3 x6 σ24))
def f6_hits_L3 (N : Nat) (x1 : Int32) (x2 : Int32) (x3 : Int32) (x4 : Int32) (x5 : Int32) (K3 : Hp → Option (Int32 × Hp)) (n : Nat) : Int32 → Hp → Option (Int32 × Hp) :=
  it (fun _ _ => none) (f6_hits_B3 N x1 x2 x3 x4 x5 K3) n
def f6_hits (N : Nat) (x1 : Int32) (x2 : Int32) (x3 : Int32) (x4 : Int32) (x5 : Int32) (σ : Hp) : Option (Int32 × Hp) :=
  f6_hits_L3 N x1 x2 x3 x4 x5 (fun σL3 => some (0, σL3)) N 0 σ
abbrev rm6_hits : Room := { frames := 1, cells := 0, slots := 0, locals := 22 }
def f6_laysAd_J118 (N : Nat) (x1 : Int32) (x2 : Int32) (x3 : Int32) (x4 : Int32) (x5 : Int32) (x6 : Int32) (σ : Hp) : Option (Int32 × Hp) :=
  bd (f6_fails N 3 σ) (fun r120 σ120 => some (r120, σ120))
def f6_laysAd_J58 (N : Nat) (x1 : Int32) (x2 : Int32) (x3 : Int32) (x4 : Int32) (x5 : Int32) (x6 : Int32) (y0 : Int32) (σ : Hp) : Option (Int32 × Hp) :=
  if y0 = 0 then bd (f6_fails N 1 σ) (fun r67 σ67 => some (r67, σ67)) else bd (f6_in N x6 1 999 σ) (fun r77 σ77 => if r77 = 0 then bd (f6_fails N 2 σ77) (fun r85 σ85 => some (r85, σ85)) else gd (vib 1 166) (if (σ77 85 (1 : Int32).toNatClampNeg) = (8 : Int32) then f6_laysAd_J118 N x1 x2 x3 x4 x5 x6 σ77 else bd (f6_hits N x1 x2 x3 x4 x5 σ77) (fun r112 σ112 => if r112 = 0 then gd (vib (110 + (7 * (σ77 85 (1 : Int32).toNatClampNeg))) 166) (gd (vib ((110 + (7 * (σ77 85 (1 : Int32).toNatClampNeg))) + 1) 166) (gd (vib ((110 + (7 * (σ77 85 (1 : Int32).toNatClampNeg))) + 2) 166) (gd (vib ((110 + (7 * (σ77 85 (1 : Int32).toNatClampNeg))) + 3) 166) (gd (vib ((110 + (7 * (σ77 85 (1 : Int32).toNatClampNeg))) + 4) 166) (gd (vib ((110 + (7 * (σ77 85 (1 : Int32).toNatClampNeg))) + 5) 166) (gd (vib ((110 + (7 * (σ77 85 (1 : Int32).toNatClampNeg))) + 6) 166) (gd (vib 1 166) (gd (vib 1 166) (some (σ77 85 (1 : Int32).toNatClampNeg, (st (st (st (st (st (st (st (st σ112 85 (110 + (7 * (σ77 85 (1 : Int32).toNatClampNeg))).toNatClampNeg 1) 85 ((110 + (7 * (σ77 85 (1 : Int32).toNatClampNeg))) + 1).toNatClampNeg x1) 85 ((110 + (7 * (σ77 85 (1 : Int32).toNatClampNeg))) + 2).toNatClampNeg x2) 85 ((110 + (7 * (σ77 85 (1 : Int32).toNatClampNeg))) + 3).toNatClampNeg x3) 85 ((110 + (7 * (σ77 85 (1 : Int32).toNatClampNeg))) + 4).toNatClampNeg x4) 85 ((110 + (7 * (σ77 85 (1 : Int32).toNatClampNeg))) + 5).toNatClampNeg x5) 85 ((110 + (7 * (σ77 85 (1 : Int32).toNatClampNeg))) + 6).toNatClampNeg x6) 85 (1 : Int32).toNatClampNeg (((st (st (st (st (st (st (st σ112 85 (110 + (7 * (σ77 85 (1 : Int32).toNatClampNeg))).toNatClampNeg 1) 85 ((110 + (7 * (σ77 85 (1 : Int32).toNatClampNeg))) + 1).toNatClampNeg x1) 85 ((110 + (7 * (σ77 85 (1 : Int32).toNatClampNeg))) + 2).toNatClampNeg x2) 85 ((110 + (7 * (σ77 85 (1 : Int32).toNatClampNeg))) + 3).toNatClampNeg x3) 85 ((110 + (7 * (σ77 85 (1 : Int32).toNatClampNeg))) + 4).toNatClampNeg x4) 85 ((110 + (7 * (σ77 85 (1 : Int32).toNatClampNeg))) + 5).toNatClampNeg x5) 85 ((110 + (7 * (σ77 85 (1 : Int32).toNatClampNeg))) + 6).toNatClampNeg x6) 85 (1 : Int32).toNatClampNeg) + 1)))))))))))) else f6_laysAd_J118 N x1 x2 x3 x4 x5 x6 σ112)))
def f6_laysAd_J57 (N : Nat) (x1 : Int32) (x2 : Int32) (x3 : Int32) (x4 : Int32) (x5 : Int32) (x6 : Int32) (σ : Hp) : Option (Int32 × Hp) :=
  f6_laysAd_J58 N x1 x2 x3 x4 x5 x6 0 σ
def f6_laysAd (N : Nat) (x1 : Int32) (x2 : Int32) (x3 : Int32) (x4 : Int32) (x5 : Int32) (x6 : Int32) (σ : Hp) : Option (Int32 × Hp) :=
  bd (f6_in N x1 0 3 σ) (fun r3 σ3 => if r3 = 0 then f6_laysAd_J57 N x1 x2 x3 x4 x5 x6 σ3 else bd (f6_in N x2 0 4 σ3) (fun r12 σ12 => if r12 = 0 then f6_laysAd_J57 N x1 x2 x3 x4 x5 x6 σ12 else bd (f6_in N x3 0 23 σ12) (fun r22 σ22 => if r22 = 0 then f6_laysAd_J57 N x1 x2 x3 x4 x5 x6 σ22 else bd (f6_in N x4 1 (5 - x2) σ22) (fun r34 σ34 => if r34 = 0 then f6_laysAd_J57 N x1 x2 x3 x4 x5 x6 σ34 else bd (f6_in N x5 1 (24 - x3) σ34) (fun r47 σ47 => if r47 = 0 then f6_laysAd_J57 N x1 x2 x3 x4 x5 x6 σ47 else f6_laysAd_J58 N x1 x2 x3 x4 x5 x6 1 σ47)))))
abbrev rm6_laysAd : Room := { frames := 2, cells := 0, slots := 0, locals := 49 }
def f6_isNumber (N : Nat) (x0 : Int32) (x1 : Int32) (σ : Hp) : Option (Int32 × Hp) :=
  if x0 = 0 then bd (f6_in N x1 0 3 σ) (fun r39 σ39 => gd (okB r39) (some (r39, σ39))) else if x0 = 1 then bd (f6_in N x1 1 3 σ) (fun r46 σ46 => gd (okB r46) (some (r46, σ46))) else if x0 = 2 then bd (f6_in N x1 1 3 σ) (fun r46 σ46 => gd (okB r46) (some (r46, σ46))) else if x0 = 3 then bd (f6_in N x1 1 150 σ) (fun r55 σ55 => gd (okB r55) (some (r55, σ55))) else if x0 = 4 then bd (f6_in N x1 0 9 σ) (fun r63 σ63 => gd (okB r63) (some (r63, σ63))) else some (0, σ)
abbrev rm6_isNumber : Room := { frames := 1, cells := 0, slots := 0, locals := 22 }
def f6_laysStory_J48 (N : Nat) (x1 : Int32) (x2 : Int32) (x3 : Int32) (x4 : Int32) (x5 : Int32) (σ : Hp) : Option (Int32 × Hp) :=
  bd (f6_fails N 2 σ) (fun r50 σ50 => some (r50, σ50))
def f6_laysStory_B148 (N : Nat) (x1 : Int32) (x2 : Int32) (x3 : Int32) (x4 : Int32) (x5 : Int32) (x6 : Int32) (x7 : Int32) (K148 : Hp → Option (Int32 × Hp)) (r148 : Int32 → Hp → Option (Int32 × Hp)) (x8 : Int32) (σ : Hp) : Option (Int32 × Hp) :=
  if (9 : Int32) ≤ x8 then K148 σ else gd (vib (x7 + x8) 166) (r148 (x8 + 1) (st σ 85 (x7 + x8).toNatClampNeg 0))
def f6_laysStory_L148 (N : Nat) (x1 : Int32) (x2 : Int32) (x3 : Int32) (x4 : Int32) (x5 : Int32) (x6 : Int32) (x7 : Int32) (K148 : Hp → Option (Int32 × Hp)) (n : Nat) : Int32 → Hp → Option (Int32 × Hp) :=
  it (fun _ _ => none) (f6_laysStory_B148 N x1 x2 x3 x4 x5 x6 x7 K148) n
def f6_laysStory (N : Nat) (x1 : Int32) (x2 : Int32) (x3 : Int32) (x4 : Int32) (x5 : Int32) (σ : Hp) : Option (Int32 × Hp) :=
  bd (f6_isNumber N 0 x1 σ) (fun r2 σ2 => if r2 = 0 then bd (f6_fails N 1 σ2) (fun r10 σ10 => some (r10, σ10)) else bd (f6_isNumber N 1 x2 σ2) (fun r16 σ16 => if r16 = 0 then f6_laysStory_J48 N x1 x2 x3 x4 x5 σ16 else bd (f6_isNumber N 2 x3 σ16) (fun r24 σ24 => if r24 = 0 then f6_laysStory_J48 N x1 x2 x3 x4 x5 σ24 else bd (f6_isNumber N 3 x4 σ24) (fun r33 σ33 => if r33 = 0 then f6_laysStory_J48 N x1 x2 x3 x4 x5 σ33 else bd (f6_isNumber N 4 x5 σ33) (fun r42 σ42 => if r42 = 0 then f6_laysStory_J48 N x1 x2 x3 x4 x5 σ42 else gd (vib 0 166) (if (σ42 85 (0 : Int32).toNatClampNeg) = (12 : Int32) then bd (f6_fails N 3 σ42) (fun r71 σ71 => some (r71, σ71)) else gd (vib (2 + (9 * (σ42 85 (0 : Int32).toNatClampNeg))) 166) (gd (vib ((2 + (9 * (σ42 85 (0 : Int32).toNatClampNeg))) + 1) 166) (gd (vib ((2 + (9 * (σ42 85 (0 : Int32).toNatClampNeg))) + 2) 166) (gd (vib ((2 + (9 * (σ42 85 (0 : Int32).toNatClampNeg))) + 3) 166) (gd (vib ((2 + (9 * (σ42 85 (0 : Int32).toNatClampNeg))) + 4) 166) (gd (vib ((2 + (9 * (σ42 85 (0 : Int32).toNatClampNeg))) + 5) 166) (f6_laysStory_L148 N x1 x2 x3 x4 x5 (σ42 85 (0 : Int32).toNatClampNeg) (2 + (9 * (σ42 85 (0 : Int32).toNatClampNeg))) (fun σL148 => gd (vib 0 166) (gd (vib 0 166) (some (σ42 85 (0 : Int32).toNatClampNeg, (st σL148 85 (0 : Int32).toNatClampNeg ((σL148 85 (0 : Int32).toNatClampNeg) + 1)))))) N 6 (st (st (st (st (st (st σ42 85 (2 + (9 * (σ42 85 (0 : Int32).toNatClampNeg))).toNatClampNeg 1) 85 ((2 + (9 * (σ42 85 (0 : Int32).toNatClampNeg))) + 1).toNatClampNeg x1) 85 ((2 + (9 * (σ42 85 (0 : Int32).toNatClampNeg))) + 2).toNatClampNeg x2) 85 ((2 + (9 * (σ42 85 (0 : Int32).toNatClampNeg))) + 3).toNatClampNeg x3) 85 ((2 + (9 * (σ42 85 (0 : Int32).toNatClampNeg))) + 4).toNatClampNeg x4) 85 ((2 + (9 * (σ42 85 (0 : Int32).toNatClampNeg))) + 5).toNatClampNeg x5)))))))))))))
abbrev rm6_laysStory : Room := { frames := 2, cells := 0, slots := 0, locals := 43 }
def f6_laysPhoto_J54 (N : Nat) (x1 : Int32) (x2 : Int32) (x3 : Int32) (y0 : Int32) (σ : Hp) : Option (Int32 × Hp) :=
  if y0 = 0 then bd (f6_fails N 2 σ) (fun r63 σ63 => some (r63, σ63)) else bd (f6_of N x1 6 σ) (fun r71 σ71 => gd (vib ((2 + (9 * x1)) + 6) 166) (gd (vib ((2 + (9 * x1)) + 7) 166) (some (r71, (st (st σ71 85 ((2 + (9 * x1)) + 6).toNatClampNeg x2) 85 ((2 + (9 * x1)) + 7).toNatClampNeg x3)))))
def f6_laysPhoto_J53 (N : Nat) (x1 : Int32) (x2 : Int32) (x3 : Int32) (σ : Hp) : Option (Int32 × Hp) :=
  f6_laysPhoto_J54 N x1 x2 x3 0 σ
def f6_laysPhoto (N : Nat) (x1 : Int32) (x2 : Int32) (x3 : Int32) (σ : Hp) : Option (Int32 × Hp) :=
  bd (f6_isStory N x1 σ) (fun r2 σ2 => if r2 = 0 then bd (f6_fails N 1 σ2) (fun r10 σ10 => some (r10, σ10)) else if x2 = 0 then if x3 = 0 then f6_laysPhoto_J54 N x1 x2 x3 1 σ2 else f6_laysPhoto_J54 N x1 x2 x3 0 σ2 else bd (f6_in N x2 2 8 σ2) (fun r34 σ34 => if r34 = 0 then f6_laysPhoto_J53 N x1 x2 x3 σ34 else bd (f6_in N x3 0 2 σ34) (fun r43 σ43 => if r43 = 0 then f6_laysPhoto_J53 N x1 x2 x3 σ43 else f6_laysPhoto_J54 N x1 x2 x3 1 σ43)))
abbrev rm6_laysPhoto : Room := { frames := 2, cells := 0, slots := 0, locals := 43 }
def f6_laysLate (N : Nat) (x1 : Int32) (x2 : Int32) (σ : Hp) : Option (Int32 × Hp) :=
  bd (f6_isStory N x1 σ) (fun r2 σ2 => if r2 = 0 then bd (f6_fails N 1 σ2) (fun r10 σ10 => some (r10, σ10)) else bd (f6_of N x1 8 σ2) (fun r18 σ18 => gd (vib ((2 + (9 * x1)) + 8) 166) (some (r18, (st σ18 85 ((2 + (9 * x1)) + 8).toNatClampNeg x2)))))
abbrev rm6_laysLate : Room := { frames := 2, cells := 0, slots := 0, locals := 43 }
def f6_begins (N : Nat) (σ : Hp) : Option (Unit × Hp) :=
  bd (f6_keeps N (st σ 84 0 0)) (fun _ σ6 => some ((), σ6))
abbrev rm6_begins : Room := { frames := 2, cells := 0, slots := 0, locals := 44 }
def f6_ends (N : Nat) (x1 : Int32) (σ : Hp) : Option (Int32 × Hp) :=
  if (σ 84 0) = 0 then bd (f6_changes N σ) (fun _ σ8 => some (x1, σ8)) else some (x1, σ)
abbrev rm6_ends : Room := { frames := 2, cells := 0, slots := 0, locals := 45 }
def f6_addAdvertisement (N : Nat) (x1 : Int32) (x2 : Int32) (x3 : Int32) (x4 : Int32) (x5 : Int32) (x6 : Int32) (σ : Hp) : Option (Int32 × Hp) :=
  bd (f6_begins N σ) (fun _ σ1 => bd (f6_laysAd N x1 x2 x3 x4 x5 x6 σ1) (fun r15 σ15 => bd (f6_ends N r15 σ15) (fun r18 σ18 => some (r18, σ18))))
abbrev rm6_addAdvertisement : Room := { frames := 3, cells := 0, slots := 0, locals := 78 }
def f6_addStory (N : Nat) (x1 : Int32) (x2 : Int32) (x3 : Int32) (x4 : Int32) (x5 : Int32) (σ : Hp) : Option (Int32 × Hp) :=
  bd (f6_begins N σ) (fun _ σ1 => bd (f6_laysStory N x1 x2 x3 x4 x5 σ1) (fun r13 σ13 => bd (f6_ends N r13 σ13) (fun r16 σ16 => some (r16, σ16))))
abbrev rm6_addStory : Room := { frames := 3, cells := 0, slots := 0, locals := 71 }
def f6_setPhoto (N : Nat) (x1 : Int32) (x2 : Int32) (x3 : Int32) (σ : Hp) : Option (Int32 × Hp) :=
  bd (f6_begins N σ) (fun _ σ1 => bd (f6_laysPhoto N x1 x2 x3 σ1) (fun r9 σ9 => bd (f6_ends N r9 σ9) (fun r12 σ12 => some (r12, σ12))))
abbrev rm6_setPhoto : Room := { frames := 3, cells := 0, slots := 0, locals := 68 }
def f6_setLate_J16 (N : Nat) (x1 : Int32) (x2 : Int32) (y0 : Int32) (y1 : Int32) (σ : Hp) : Option (Int32 × Hp) :=
  bd (f6_laysLate N y1 y0 σ) (fun r16 σ16 => bd (f6_ends N r16 σ16) (fun r19 σ19 => if r19 = (1 : Int32) then some (1, σ19) else some (0, σ19)))
def f6_setLate (N : Nat) (x1 : Int32) (x2 : Int32) (σ : Hp) : Option (Int32 × Hp) :=
  bd (f6_begins N σ) (fun _ σ1 => if x2 = 0 then f6_setLate_J16 N x1 x2 0 x1 σ1 else f6_setLate_J16 N x1 x2 1 x1 σ1)
abbrev rm6_setLate : Room := { frames := 3, cells := 0, slots := 0, locals := 66 }
def f6_change (N : Nat) (x1 : Int32) (x2 : Int32) (x3 : Int32) (σ : Hp) : Option (Int32 × Hp) :=
  bd (f6_begins N σ) (fun _ σ1 => bd (f6_isStory N x1 σ1) (fun r6 σ6 => if r6 = 0 then bd (f6_fails N 1 σ6) (fun r14 σ14 => some (r14, σ14)) else bd (f6_isNumber N x2 x3 σ6) (fun r20 σ20 => if r20 = 0 then bd (f6_fails N 2 σ20) (fun r28 σ28 => some (r28, σ28)) else bd (f6_of N x1 (1 + x2) σ20) (fun r37 σ37 => gd (vib (((2 + (9 * x1)) + 1) + x2) 166) (bd (f6_ends N r37 (st σ37 85 (((2 + (9 * x1)) + 1) + x2).toNatClampNeg x3)) (fun r61 σ61 => some (r61, σ61)))))))
abbrev rm6_change : Room := { frames := 3, cells := 0, slots := 0, locals := 66 }
def f6_many_J39 (N : Nat) (x1 : Int32) (K4 : Int32 → Hp → Option (Int32 × Hp)) (r4 : Int32 → Int32 → Hp → Option (Int32 × Hp)) (x3 : Int32) (y0 : Int32) (y1 : Int32) (σ : Hp) : Option (Int32 × Hp) :=
  r4 (y1 + y0) (x3 + 1) σ
def f6_many_J16 (N : Nat) (x1 : Int32) (K4 : Int32 → Hp → Option (Int32 × Hp)) (r4 : Int32 → Int32 → Hp → Option (Int32 × Hp)) (x2 : Int32) (x3 : Int32) (y0 : Int32) (y1 : Int32) (σ : Hp) : Option (Int32 × Hp) :=
  if y0 ≤ y1 then K4 x2 σ else if x1 = 0 then bd (f6_ad N x3 0 σ) (fun r36 σ36 => f6_many_J39 N x1 K4 r4 x3 r36 x2 σ36) else bd (f6_of N x3 0 σ) (fun r27 σ27 => f6_many_J39 N x1 K4 r4 x3 r27 x2 σ27)
def f6_many_B4 (N : Nat) (x1 : Int32) (K4 : Int32 → Hp → Option (Int32 × Hp)) (r4 : Int32 → Int32 → Hp → Option (Int32 × Hp)) (x2 : Int32) (x3 : Int32) (σ : Hp) : Option (Int32 × Hp) :=
  if x1 = 0 then f6_many_J16 N x1 K4 r4 x2 x3 8 x3 σ else f6_many_J16 N x1 K4 r4 x2 x3 12 x3 σ
def f6_many_L4 (N : Nat) (x1 : Int32) (K4 : Int32 → Hp → Option (Int32 × Hp)) (n : Nat) : Int32 → Int32 → Hp → Option (Int32 × Hp) :=
  it (fun _ _ _ => none) (f6_many_B4 N x1 K4) n
def f6_many (N : Nat) (x1 : Int32) (σ : Hp) : Option (Int32 × Hp) :=
  f6_many_L4 N x1 (fun x2_4 σL4 => some (x2_4, σL4)) N 0 0 σ
abbrev rm6_many : Room := { frames := 1, cells := 0, slots := 0, locals := 22 }
def f6_remove_J57 (N : Nat) (x1 : Int32) (x2 : Int32) (y0 : Int32) (σ : Hp) : Option (Int32 × Hp) :=
  gd (vib y0 166) (bd (f6_many N x1 (st σ 85 y0.toNatClampNeg 0)) (fun r62 σ62 => bd (f6_ends N r62 σ62) (fun r65 σ65 => some (r65, σ65))))
def f6_remove_J33 (N : Nat) (x1 : Int32) (x2 : Int32) (σ : Hp) : Option (Int32 × Hp) :=
  if x1 = 0 then f6_remove_J57 N x1 x2 (110 + (7 * x2)) σ else f6_remove_J57 N x1 x2 (2 + (9 * x2)) σ
def f6_remove_J27 (N : Nat) (x1 : Int32) (x2 : Int32) (σ : Hp) : Option (Int32 × Hp) :=
  bd (f6_fails N 1 σ) (fun r29 σ29 => some (r29, σ29))
def f6_remove (N : Nat) (x1 : Int32) (x2 : Int32) (σ : Hp) : Option (Int32 × Hp) :=
  bd (f6_begins N σ) (fun _ σ1 => if x1 = 0 then bd (f6_isAd N x2 σ1) (fun r21 σ21 => if r21 = 0 then f6_remove_J27 N x1 x2 σ21 else f6_remove_J33 N x1 x2 σ21) else bd (f6_isStory N x2 σ1) (fun r10 σ10 => if r10 = 0 then f6_remove_J27 N x1 x2 σ10 else f6_remove_J33 N x1 x2 σ10))
abbrev rm6_remove : Room := { frames := 3, cells := 0, slots := 0, locals := 66 }
def f6_at (N : Nat) (x0 : Int32) (x1 : Int32) (x2 : Int32) (σ : Hp) : Option (Int32 × Hp) :=
  some ((((24 * x0) + x2) * 5) + x1, σ)
abbrev rm6_at : Room := { frames := 0, cells := 0, slots := 0, locals := 0 }
def f6_isAhead (N : Nat) (x1 : Int32) (x2 : Int32) (σ : Hp) : Option (Int32 × Hp) :=
  bd (f6_of N x1 8 σ) (fun r4 σ4 => bd (f6_of N x2 8 σ4) (fun r11 σ11 => if r4 = r11 then bd (f6_of N x1 5 σ11) (fun r37 σ37 => bd (f6_of N x2 5 σ37) (fun r43 σ43 => if r37 = r43 then if x2 ≤ x1 then some (0, σ43) else some (1, σ43) else bd (f6_of N x1 5 σ43) (fun r52 σ52 => bd (f6_of N x2 5 σ52) (fun r58 σ58 => if r52 ≤ r58 then some (0, σ58) else some (1, σ58))))) else bd (f6_of N x1 8 σ11) (fun r21 σ21 => if r21 = (1 : Int32) then some (1, σ21) else some (0, σ21))))
abbrev rm6_isAhead : Room := { frames := 1, cells := 0, slots := 0, locals := 22 }
def f6_ranks_B30 (N : Nat) (K7 : Hp → Option (Unit × Hp)) (r7 : Int32 → Hp → Option (Unit × Hp)) (x1 : Int32) (K30 : Int32 → Hp → Option (Unit × Hp)) (r30 : Int32 → Hp → Option (Unit × Hp)) (x2 : Int32) (σ : Hp) : Option (Unit × Hp) :=
  if x2 ≤ 0 then K30 x2 σ else gd (vib (x2 - 1) 12) (bd (f6_isAhead N x1 (σ 91 (x2 - 1).toNatClampNeg) σ) (fun r44 σ44 => if r44 = 0 then K30 x2 σ44 else gd (vib (x2 - 1) 12) (gd (vib x2 12) (r30 (x2 + (-1)) (st σ44 91 x2.toNatClampNeg (σ44 91 (x2 - 1).toNatClampNeg))))))
def f6_ranks_L30 (N : Nat) (K7 : Hp → Option (Unit × Hp)) (r7 : Int32 → Hp → Option (Unit × Hp)) (x1 : Int32) (K30 : Int32 → Hp → Option (Unit × Hp)) (n : Nat) : Int32 → Hp → Option (Unit × Hp) :=
  it (fun _ _ => none) (f6_ranks_B30 N K7 r7 x1 K30) n
def f6_ranks_J87 (N : Nat) (K7 : Hp → Option (Unit × Hp)) (r7 : Int32 → Hp → Option (Unit × Hp)) (x1 : Int32) (σ : Hp) : Option (Unit × Hp) :=
  r7 (x1 + 1) σ
def f6_ranks_B7 (N : Nat) (K7 : Hp → Option (Unit × Hp)) (r7 : Int32 → Hp → Option (Unit × Hp)) (x1 : Int32) (σ : Hp) : Option (Unit × Hp) :=
  if (12 : Int32) ≤ x1 then K7 σ else bd (f6_of N x1 0 σ) (fun r16 σ16 => if r16 = 0 then f6_ranks_J87 N K7 r7 x1 σ16 else f6_ranks_L30 N K7 r7 x1 (fun x2_30 σL30 => gd (vib x2_30 12) (f6_ranks_J87 N K7 r7 x1 (st (st σL30 91 x2_30.toNatClampNeg x1) 84 14 (((st σL30 91 x2_30.toNatClampNeg x1) 84 14) + 1)))) N (σ16 84 14) σ16)
def f6_ranks_L7 (N : Nat) (K7 : Hp → Option (Unit × Hp)) (n : Nat) : Int32 → Hp → Option (Unit × Hp) :=
  it (fun _ _ => none) (f6_ranks_B7 N K7) n
def f6_ranks (N : Nat) (σ : Hp) : Option (Unit × Hp) :=
  f6_ranks_L7 N (fun σL7 => some ((), σL7)) N 0 (st σ 84 14 0)
abbrev rm6_ranks : Room := { frames := 2, cells := 0, slots := 0, locals := 44 }
def f6_isFree_B34 (N : Nat) (x1 : Int32) (x2 : Int32) (x3 : Int32) (x4 : Int32) (x5 : Int32) (K22 : Hp → Option (Int32 × Hp)) (r22 : Int32 → Hp → Option (Int32 × Hp)) (x6 : Int32) (K34 : Hp → Option (Int32 × Hp)) (r34 : Int32 → Hp → Option (Int32 × Hp)) (x7 : Int32) (σ : Hp) : Option (Int32 × Hp) :=
  if (x2 + x4) ≤ x7 then K34 σ else bd (f6_at N x1 x7 x6 σ) (fun r52 σ52 => gd (vib r52 480) (if (σ52 89 r52.toNatClampNeg) = 0 then r34 (x7 + 1) σ52 else some (0, σ52)))
def f6_isFree_L34 (N : Nat) (x1 : Int32) (x2 : Int32) (x3 : Int32) (x4 : Int32) (x5 : Int32) (K22 : Hp → Option (Int32 × Hp)) (r22 : Int32 → Hp → Option (Int32 × Hp)) (x6 : Int32) (K34 : Hp → Option (Int32 × Hp)) (n : Nat) : Int32 → Hp → Option (Int32 × Hp) :=
  it (fun _ _ => none) (f6_isFree_B34 N x1 x2 x3 x4 x5 K22 r22 x6 K34) n
def f6_isFree_B22 (N : Nat) (x1 : Int32) (x2 : Int32) (x3 : Int32) (x4 : Int32) (x5 : Int32) (K22 : Hp → Option (Int32 × Hp)) (r22 : Int32 → Hp → Option (Int32 × Hp)) (x6 : Int32) (σ : Hp) : Option (Int32 × Hp) :=
  if (x3 + x5) ≤ x6 then K22 σ else f6_isFree_L34 N x1 x2 x3 x4 x5 K22 r22 x6 (fun σL34 => r22 (x6 + 1) σL34) N x2 σ
def f6_isFree_L22 (N : Nat) (x1 : Int32) (x2 : Int32) (x3 : Int32) (x4 : Int32) (x5 : Int32) (K22 : Hp → Option (Int32 × Hp)) (n : Nat) : Int32 → Hp → Option (Int32 × Hp) :=
  it (fun _ _ => none) (f6_isFree_B22 N x1 x2 x3 x4 x5 K22) n
def f6_isFree (N : Nat) (x1 : Int32) (x2 : Int32) (x3 : Int32) (x4 : Int32) (x5 : Int32) (σ : Hp) : Option (Int32 × Hp) :=
  if (5 : Int32) < (x2 + x4) then some (0, σ) else if (x3 + x5) ≤ (24 : Int32) then f6_isFree_L22 N x1 x2 x3 x4 x5 (fun σL22 => some (1, σL22)) N x3 σ else some (0, σ)
abbrev rm6_isFree : Room := { frames := 1, cells := 0, slots := 0, locals := 22 }
def f6_block_B15 (N : Nat) (x1 : Int32) (x2 : Int32) (x3 : Int32) (K3 : Hp → Option (Int32 × Hp)) (r3 : Int32 → Hp → Option (Int32 × Hp)) (x4 : Int32) (K15 : Hp → Option (Int32 × Hp)) (r15 : Int32 → Hp → Option (Int32 × Hp)) (x5 : Int32) (σ : Hp) : Option (Int32 × Hp) :=
  if (5 : Int32) < (x5 + x2) then K15 σ else bd (f6_isFree N x1 x5 x4 x2 x3 σ) (fun r31 σ31 => if r31 = 0 then r15 (x5 + 1) σ31 else some ((x4 * 5) + x5, σ31))
def f6_block_L15 (N : Nat) (x1 : Int32) (x2 : Int32) (x3 : Int32) (K3 : Hp → Option (Int32 × Hp)) (r3 : Int32 → Hp → Option (Int32 × Hp)) (x4 : Int32) (K15 : Hp → Option (Int32 × Hp)) (n : Nat) : Int32 → Hp → Option (Int32 × Hp) :=
  it (fun _ _ => none) (f6_block_B15 N x1 x2 x3 K3 r3 x4 K15) n
def f6_block_B3 (N : Nat) (x1 : Int32) (x2 : Int32) (x3 : Int32) (K3 : Hp → Option (Int32 × Hp)) (r3 : Int32 → Hp → Option (Int32 × Hp)) (x4 : Int32) (σ : Hp) : Option (Int32 × Hp) :=
  if (24 : Int32) < (x4 + x3) then K3 σ else f6_block_L15 N x1 x2 x3 K3 r3 x4 (fun σL15 => r3 (x4 + 1) σL15) N 0 σ
def f6_block_L3 (N : Nat) (x1 : Int32) (x2 : Int32) (x3 : Int32) (K3 : Hp → Option (Int32 × Hp)) (n : Nat) : Int32 → Hp → Option (Int32 × Hp) :=
  it (fun _ _ => none) (f6_block_B3 N x1 x2 x3 K3) n
def f6_block (N : Nat) (x1 : Int32) (x2 : Int32) (x3 : Int32) (σ : Hp) : Option (Int32 × Hp) :=
  f6_block_L3 N x1 x2 x3 (fun σL3 => some ((-1), σL3)) N 0 σ
abbrev rm6_block : Room := { frames := 2, cells := 0, slots := 0, locals := 49 }
def f6_fills_B15 (N : Nat) (x1 : Int32) (x2 : Int32) (x3 : Int32) (x4 : Int32) (x5 : Int32) (x6 : Int32) (x7 : Int32) (K3 : Hp → Option (Unit × Hp)) (r3 : Int32 → Hp → Option (Unit × Hp)) (x8 : Int32) (K15 : Hp → Option (Unit × Hp)) (r15 : Int32 → Hp → Option (Unit × Hp)) (x9 : Int32) (σ : Hp) : Option (Unit × Hp) :=
  if (x2 + x4) ≤ x9 then K15 σ else bd (f6_at N x1 x9 x8 σ) (fun r33 σ33 => gd (vib r33 480) (bd (f6_at N x1 x9 x8 (st σ33 89 r33.toNatClampNeg x6)) (fun r48 σ48 => gd (vib r48 480) (r15 (x9 + 1) (st σ48 90 r48.toNatClampNeg x7)))))
def f6_fills_L15 (N : Nat) (x1 : Int32) (x2 : Int32) (x3 : Int32) (x4 : Int32) (x5 : Int32) (x6 : Int32) (x7 : Int32) (K3 : Hp → Option (Unit × Hp)) (r3 : Int32 → Hp → Option (Unit × Hp)) (x8 : Int32) (K15 : Hp → Option (Unit × Hp)) (n : Nat) : Int32 → Hp → Option (Unit × Hp) :=
  it (fun _ _ => none) (f6_fills_B15 N x1 x2 x3 x4 x5 x6 x7 K3 r3 x8 K15) n
def f6_fills_B3 (N : Nat) (x1 : Int32) (x2 : Int32) (x3 : Int32) (x4 : Int32) (x5 : Int32) (x6 : Int32) (x7 : Int32) (K3 : Hp → Option (Unit × Hp)) (r3 : Int32 → Hp → Option (Unit × Hp)) (x8 : Int32) (σ : Hp) : Option (Unit × Hp) :=
  if (x3 + x5) ≤ x8 then K3 σ else f6_fills_L15 N x1 x2 x3 x4 x5 x6 x7 K3 r3 x8 (fun σL15 => r3 (x8 + 1) σL15) N x2 σ
def f6_fills_L3 (N : Nat) (x1 : Int32) (x2 : Int32) (x3 : Int32) (x4 : Int32) (x5 : Int32) (x6 : Int32) (x7 : Int32) (K3 : Hp → Option (Unit × Hp)) (n : Nat) : Int32 → Hp → Option (Unit × Hp) :=
  it (fun _ _ => none) (f6_fills_B3 N x1 x2 x3 x4 x5 x6 x7 K3) n
def f6_fills (N : Nat) (x1 : Int32) (x2 : Int32) (x3 : Int32) (x4 : Int32) (x5 : Int32) (x6 : Int32) (x7 : Int32) (σ : Hp) : Option (Unit × Hp) :=
  f6_fills_L3 N x1 x2 x3 x4 x5 x6 x7 (fun σL3 => some ((), σL3)) N x3 σ
abbrev rm6_fills : Room := { frames := 1, cells := 0, slots := 0, locals := 22 }
def f6_head (N : Nat) (x1 : Int32) (σ : Hp) : Option (Int32 × Hp) :=
  bd (f6_of N x1 3 σ) (fun r3 σ3 => bd (f6_of N x1 6 σ3) (fun r10 σ10 => bd (f6_of N x1 7 σ10) (fun r18 σ18 => some ((r3 + r10) + r18, σ18))))
abbrev rm6_head : Room := { frames := 1, cells := 0, slots := 0, locals := 22 }
def f6_goesOn_B4 (N : Nat) (x1 : Int32) (K4 : Hp → Option (Int32 × Hp)) (r4 : Int32 → Hp → Option (Int32 × Hp)) (x2 : Int32) (σ : Hp) : Option (Int32 × Hp) :=
  if (4 : Int32) ≤ x2 then K4 σ else bd (f6_block N x2 1 3 σ) (fun r13 σ13 => if r13 < 0 then r4 (x2 + 1) σ13 else some (x2, σ13))
def f6_goesOn_L4 (N : Nat) (x1 : Int32) (K4 : Hp → Option (Int32 × Hp)) (n : Nat) : Int32 → Hp → Option (Int32 × Hp) :=
  it (fun _ _ => none) (f6_goesOn_B4 N x1 K4) n
def f6_goesOn (N : Nat) (x1 : Int32) (σ : Hp) : Option (Int32 × Hp) :=
  f6_goesOn_L4 N x1 (fun σL4 => some ((-1), σL4)) N (x1 + 1) σ
abbrev rm6_goesOn : Room := { frames := 3, cells := 0, slots := 0, locals := 74 }
def f6_notes_J108 (N : Nat) (x1 : Int32) (x2 : Int32) (x3 : Int32) (x4 : Int32) (x5 : Int32) (x6 : Int32) (x7 : Int32) (x8 : Int32) (x9 : Int32) (y0 : Int32) (y1 : Int32) (σ : Hp) : Option (Unit × Hp) :=
  gd (vib y1 384) (gd (vib x1 12) (gd (vib x1 12) (some ((), (st (st σ 94 y1.toNatClampNeg y0) 93 x1.toNatClampNeg (((st σ 94 y1.toNatClampNeg y0) 93 x1.toNatClampNeg) + 1))))))
def f6_notes (N : Nat) (x1 : Int32) (x2 : Int32) (x3 : Int32) (x4 : Int32) (x5 : Int32) (x6 : Int32) (x7 : Int32) (x8 : Int32) (x9 : Int32) (σ : Hp) : Option (Unit × Hp) :=
  gd (vib x1 12) (gd (vib (8 * ((4 * x1) + (σ 93 x1.toNatClampNeg))) 384) (gd (vib ((8 * ((4 * x1) + (σ 93 x1.toNatClampNeg))) + 1) 384) (gd (vib ((8 * ((4 * x1) + (σ 93 x1.toNatClampNeg))) + 2) 384) (gd (vib ((8 * ((4 * x1) + (σ 93 x1.toNatClampNeg))) + 3) 384) (gd (vib ((8 * ((4 * x1) + (σ 93 x1.toNatClampNeg))) + 4) 384) (gd (vib ((8 * ((4 * x1) + (σ 93 x1.toNatClampNeg))) + 5) 384) (gd (vib ((8 * ((4 * x1) + (σ 93 x1.toNatClampNeg))) + 6) 384) (if x9 = 0 then f6_notes_J108 N x1 x2 x3 x4 x5 x6 x7 x8 x9 0 ((8 * ((4 * x1) + (σ 93 x1.toNatClampNeg))) + 7) (st (st (st (st (st (st (st σ 94 (8 * ((4 * x1) + (σ 93 x1.toNatClampNeg))).toNatClampNeg x2) 94 ((8 * ((4 * x1) + (σ 93 x1.toNatClampNeg))) + 1).toNatClampNeg x3) 94 ((8 * ((4 * x1) + (σ 93 x1.toNatClampNeg))) + 2).toNatClampNeg x4) 94 ((8 * ((4 * x1) + (σ 93 x1.toNatClampNeg))) + 3).toNatClampNeg x5) 94 ((8 * ((4 * x1) + (σ 93 x1.toNatClampNeg))) + 4).toNatClampNeg x6) 94 ((8 * ((4 * x1) + (σ 93 x1.toNatClampNeg))) + 5).toNatClampNeg x7) 94 ((8 * ((4 * x1) + (σ 93 x1.toNatClampNeg))) + 6).toNatClampNeg x8) else f6_notes_J108 N x1 x2 x3 x4 x5 x6 x7 x8 x9 1 ((8 * ((4 * x1) + (σ 93 x1.toNatClampNeg))) + 7) (st (st (st (st (st (st (st σ 94 (8 * ((4 * x1) + (σ 93 x1.toNatClampNeg))).toNatClampNeg x2) 94 ((8 * ((4 * x1) + (σ 93 x1.toNatClampNeg))) + 1).toNatClampNeg x3) 94 ((8 * ((4 * x1) + (σ 93 x1.toNatClampNeg))) + 2).toNatClampNeg x4) 94 ((8 * ((4 * x1) + (σ 93 x1.toNatClampNeg))) + 3).toNatClampNeg x5) 94 ((8 * ((4 * x1) + (σ 93 x1.toNatClampNeg))) + 4).toNatClampNeg x6) 94 ((8 * ((4 * x1) + (σ 93 x1.toNatClampNeg))) + 5).toNatClampNeg x7) 94 ((8 * ((4 * x1) + (σ 93 x1.toNatClampNeg))) + 6).toNatClampNeg x8)))))))))
abbrev rm6_notes : Room := { frames := 0, cells := 0, slots := 0, locals := 0 }
def f6_linesIn_J45 (N : Nat) (x1 : Int32) (x2 : Int32) (x3 : Int32) (x4 : Int32) (x5 : Int32) (x6 : Int32) (x7 : Int32) (K18 : Hp → Option (Unit × Hp)) (r18 : Int32 → Hp → Option (Unit × Hp)) (x8 : Int32) (y0 : Int32) (y1 : Int32) (σ : Hp) : Option (Unit × Hp) :=
  bd (f6_fills N x2 (x3 + x8) x4 1 (y1 + y0) 5 x1 σ) (fun _ σ61 => r18 (x8 + 1) σ61)
def f6_linesIn_B18 (N : Nat) (x1 : Int32) (x2 : Int32) (x3 : Int32) (x4 : Int32) (x5 : Int32) (x6 : Int32) (x7 : Int32) (K18 : Hp → Option (Unit × Hp)) (r18 : Int32 → Hp → Option (Unit × Hp)) (x8 : Int32) (σ : Hp) : Option (Unit × Hp) :=
  if x5 ≤ x8 then K18 σ else gd (!decide (x5 = 0)) (gd (!decide (x5 = 0)) (if (x7 - x7 / x5 * x5) ≤ x8 then f6_linesIn_J45 N x1 x2 x3 x4 x5 x6 x7 K18 r18 x8 0 (x7 / x5) σ else f6_linesIn_J45 N x1 x2 x3 x4 x5 x6 x7 K18 r18 x8 1 (x7 / x5) σ))
def f6_linesIn_L18 (N : Nat) (x1 : Int32) (x2 : Int32) (x3 : Int32) (x4 : Int32) (x5 : Int32) (x6 : Int32) (x7 : Int32) (K18 : Hp → Option (Unit × Hp)) (n : Nat) : Int32 → Hp → Option (Unit × Hp) :=
  it (fun _ _ => none) (f6_linesIn_B18 N x1 x2 x3 x4 x5 x6 x7 K18) n
def f6_linesIn (N : Nat) (x1 : Int32) (x2 : Int32) (x3 : Int32) (x4 : Int32) (x5 : Int32) (x6 : Int32) (x7 : Int32) (σ : Hp) : Option (Unit × Hp) :=
  bd (f6_fills N x2 x3 x4 x5 x6 8 x1 σ) (fun _ σ12 => f6_linesIn_L18 N x1 x2 x3 x4 x5 x6 x7 (fun σL18 => some ((), σL18)) N 0 σ12)
abbrev rm6_linesIn : Room := { frames := 2, cells := 0, slots := 0, locals := 51 }
def f6_continues_B36 (N : Nat) (x1 : Int32) (x2 : Int32) (x3 : Int32) (K6 : Hp → Option (Unit × Hp)) (r6 : Int32 → Int32 → Hp → Option (Unit × Hp)) (x4 : Int32) (x5 : Int32) (x7 : Int32) (x8 : Int32) (K36 : Int32 → Hp → Option (Unit × Hp)) (r36 : Int32 → Hp → Option (Unit × Hp)) (x9 : Int32) (σ : Hp) : Option (Unit × Hp) :=
  bd (f6_isFree N x4 x8 x7 1 (x9 + 1) σ) (fun r48 σ48 => if r48 = 0 then K36 x9 σ48 else r36 (x9 + 1) σ48)
def f6_continues_L36 (N : Nat) (x1 : Int32) (x2 : Int32) (x3 : Int32) (K6 : Hp → Option (Unit × Hp)) (r6 : Int32 → Int32 → Hp → Option (Unit × Hp)) (x4 : Int32) (x5 : Int32) (x7 : Int32) (x8 : Int32) (K36 : Int32 → Hp → Option (Unit × Hp)) (n : Nat) : Int32 → Hp → Option (Unit × Hp) :=
  it (fun _ _ => none) (f6_continues_B36 N x1 x2 x3 K6 r6 x4 x5 x7 x8 K36) n
def f6_continues_J211 (N : Nat) (x1 : Int32) (x2 : Int32) (x3 : Int32) (K6 : Hp → Option (Unit × Hp)) (r6 : Int32 → Int32 → Hp → Option (Unit × Hp)) (x5 : Int32) (x11 : Int32) (x12 : Int32) (y0 : Int32) (y1 : Int32) (y2 : Int32) (y3 : Int32) (y4 : Int32) (y5 : Int32) (y6 : Int32) (y7 : Int32) (y8 : Int32) (σ : Hp) : Option (Unit × Hp) :=
  bd (f6_notes N y8 y7 y6 y5 y4 y3 y2 y1 y0 σ) (fun _ σ211 => r6 x11 (x5 + x12) σ211)
def f6_continues_J196 (N : Nat) (x1 : Int32) (x2 : Int32) (x3 : Int32) (K6 : Hp → Option (Unit × Hp)) (r6 : Int32 → Int32 → Hp → Option (Unit × Hp)) (x5 : Int32) (x11 : Int32) (x12 : Int32) (y0 : Int32) (y1 : Int32) (y2 : Int32) (y3 : Int32) (y4 : Int32) (y5 : Int32) (y6 : Int32) (σ : Hp) : Option (Unit × Hp) :=
  if x11 < 0 then f6_continues_J211 N x1 x2 x3 K6 r6 x5 x11 x12 0 x5 x12 (y1 + y0) y2 y3 y4 y5 y6 σ else f6_continues_J211 N x1 x2 x3 K6 r6 x5 x11 x12 1 x5 x12 (y1 + y0) y2 y3 y4 y5 y6 σ
def f6_continues_J173 (N : Nat) (x1 : Int32) (x2 : Int32) (x3 : Int32) (K6 : Hp → Option (Unit × Hp)) (r6 : Int32 → Int32 → Hp → Option (Unit × Hp)) (x4 : Int32) (x5 : Int32) (x7 : Int32) (x8 : Int32) (x11 : Int32) (x12 : Int32) (σ : Hp) : Option (Unit × Hp) :=
  if x11 < 0 then f6_continues_J196 N x1 x2 x3 K6 r6 x5 x11 x12 0 (1 + x12) 1 x7 x8 x4 x1 σ else f6_continues_J196 N x1 x2 x3 K6 r6 x5 x11 x12 1 (1 + x12) 1 x7 x8 x4 x1 σ
def f6_continues_J113 (N : Nat) (x1 : Int32) (x2 : Int32) (x3 : Int32) (K6 : Hp → Option (Unit × Hp)) (r6 : Int32 → Int32 → Hp → Option (Unit × Hp)) (x4 : Int32) (x5 : Int32) (x7 : Int32) (x8 : Int32) (x11 : Int32) (y0 : Int32) (σ : Hp) : Option (Unit × Hp) :=
  bd (f6_fills N x4 x8 x7 1 1 7 x1 σ) (fun _ σ127 => bd (f6_linesIn N x1 x4 x8 (x7 + 1) 1 y0 y0 σ127) (fun _ σ145 => if x11 < 0 then f6_continues_J173 N x1 x2 x3 K6 r6 x4 x5 x7 x8 x11 y0 σ145 else bd (f6_fills N x4 x8 ((x7 + 1) + y0) 1 1 6 x1 σ145) (fun _ σ170 => f6_continues_J173 N x1 x2 x3 K6 r6 x4 x5 x7 x8 x11 y0 σ170)))
def f6_continues_J90 (N : Nat) (x1 : Int32) (x2 : Int32) (x3 : Int32) (K6 : Hp → Option (Unit × Hp)) (r6 : Int32 → Int32 → Hp → Option (Unit × Hp)) (x4 : Int32) (x5 : Int32) (x7 : Int32) (x8 : Int32) (x9 : Int32) (x10 : Int32) (y0 : Int32) (σ : Hp) : Option (Unit × Hp) :=
  if y0 < 0 then f6_continues_J113 N x1 x2 x3 K6 r6 x4 x5 x7 x8 y0 (if (x9 - 1) < x10 then (x9 - 1) else x10) σ else f6_continues_J113 N x1 x2 x3 K6 r6 x4 x5 x7 x8 y0 (x9 - 2) σ
def f6_continues_B6 (N : Nat) (x1 : Int32) (x2 : Int32) (x3 : Int32) (K6 : Hp → Option (Unit × Hp)) (r6 : Int32 → Int32 → Hp → Option (Unit × Hp)) (x4 : Int32) (x5 : Int32) (σ : Hp) : Option (Unit × Hp) :=
  if x4 < 0 then K6 σ else bd (f6_block N x4 1 3 σ) (fun r16 σ16 => gd (!decide ((5 : Int32) = 0)) (gd (!decide ((5 : Int32) = 0)) (f6_continues_L36 N x1 x2 x3 K6 r6 x4 x5 (r16 / (5 : Int32)) (r16 - r16 / (5 : Int32) * (5 : Int32)) (fun x9_36 σL36 => bd (f6_of N x1 4 σL36) (fun r63 σ63 => if (r63 - x5) ≤ (x9_36 - 1) then f6_continues_J90 N x1 x2 x3 K6 r6 x4 x5 (r16 / (5 : Int32)) (r16 - r16 / (5 : Int32) * (5 : Int32)) x9_36 (r63 - x5) (-1) σ63 else bd (f6_goesOn N x4 σ63) (fun r83 σ83 => f6_continues_J90 N x1 x2 x3 K6 r6 x4 x5 (r16 / (5 : Int32)) (r16 - r16 / (5 : Int32) * (5 : Int32)) x9_36 (r63 - x5) r83 σ83))) N 3 σ16)))
def f6_continues_L6 (N : Nat) (x1 : Int32) (x2 : Int32) (x3 : Int32) (K6 : Hp → Option (Unit × Hp)) (n : Nat) : Int32 → Int32 → Hp → Option (Unit × Hp) :=
  it (fun _ _ _ => none) (f6_continues_B6 N x1 x2 x3 K6) n
def f6_continues (N : Nat) (x1 : Int32) (x2 : Int32) (x3 : Int32) (σ : Hp) : Option (Unit × Hp) :=
  f6_continues_L6 N x1 x2 x3 (fun σL6 => some ((), σL6)) N x2 x3 σ
abbrev rm6_continues : Room := { frames := 4, cells := 0, slots := 0, locals := 96 }
def f6_starts_B28 (N : Nat) (x1 : Int32) (x2 : Int32) (x3 : Int32) (x4 : Int32) (x5 : Int32) (x6 : Int32) (x7 : Int32) (K28 : Int32 → Hp → Option (Unit × Hp)) (r28 : Int32 → Hp → Option (Unit × Hp)) (x8 : Int32) (σ : Hp) : Option (Unit × Hp) :=
  bd (f6_isFree N x2 x5 x4 x6 ((x7 + x8) + 1) σ) (fun r43 σ43 => if r43 = 0 then K28 x8 σ43 else r28 (x8 + 1) σ43)
def f6_starts_L28 (N : Nat) (x1 : Int32) (x2 : Int32) (x3 : Int32) (x4 : Int32) (x5 : Int32) (x6 : Int32) (x7 : Int32) (K28 : Int32 → Hp → Option (Unit × Hp)) (n : Nat) : Int32 → Hp → Option (Unit × Hp) :=
  it (fun _ _ => none) (f6_starts_B28 N x1 x2 x3 x4 x5 x6 x7 K28) n
def f6_starts_J297 (N : Nat) (x1 : Int32) (x2 : Int32) (x3 : Int32) (x10 : Int32) (x11 : Int32) (x12 : Int32) (y0 : Int32) (y1 : Int32) (y2 : Int32) (y3 : Int32) (y4 : Int32) (y5 : Int32) (y6 : Int32) (σ : Hp) : Option (Unit × Hp) :=
  bd (f6_notes N y6 y5 y4 y3 y2 (y1 + y0) x12 0 x11 σ) (fun _ σ303 => if x11 = 0 then some ((), σ303) else bd (f6_continues N x1 x10 x12 σ303) (fun _ σ317 => some ((), σ317)))
def f6_starts_J273 (N : Nat) (x1 : Int32) (x2 : Int32) (x3 : Int32) (x4 : Int32) (x5 : Int32) (x6 : Int32) (x7 : Int32) (x10 : Int32) (x11 : Int32) (x12 : Int32) (x13 : Int32) (σ : Hp) : Option (Unit × Hp) :=
  if x11 = 0 then f6_starts_J297 N x1 x2 x3 x10 x11 x12 0 (x7 + x13) x6 x4 x5 x2 x1 σ else f6_starts_J297 N x1 x2 x3 x10 x11 x12 1 (x7 + x13) x6 x4 x5 x2 x1 σ
def f6_starts_J136 (N : Nat) (x1 : Int32) (x2 : Int32) (x3 : Int32) (x4 : Int32) (x5 : Int32) (x6 : Int32) (x7 : Int32) (x10 : Int32) (x11 : Int32) (y0 : Int32) (σ : Hp) : Option (Unit × Hp) :=
  gd (!decide (x6 = 0)) (bd (f6_of N x1 3 σ) (fun r155 σ155 => bd (f6_of N x1 3 σ155) (fun r172 σ172 => bd (f6_fills N x2 x5 x4 x6 r172 2 x1 σ172) (fun _ σ177 => bd (f6_of N x1 6 σ177) (fun r192 σ192 => bd (f6_fills N x2 x5 (x4 + r155) x6 r192 3 x1 σ192) (fun _ σ197 => bd (f6_of N x1 6 σ197) (fun r210 σ210 => bd (f6_of N x1 7 σ210) (fun r220 σ220 => bd (f6_fills N x2 x5 ((x4 + r155) + r210) x6 r220 4 x1 σ220) (fun _ σ225 => bd (f6_linesIn N x1 x2 x5 (x4 + x7) x6 (((y0 + x6) - 1) / x6) y0 σ225) (fun _ σ244 => if x11 = 0 then f6_starts_J273 N x1 x2 x3 x4 x5 x6 x7 x10 x11 y0 (((y0 + x6) - 1) / x6) σ244 else bd (f6_fills N x2 x5 ((x4 + x7) + (((y0 + x6) - 1) / x6)) x6 1 6 x1 σ244) (fun _ σ270 => f6_starts_J273 N x1 x2 x3 x4 x5 x6 x7 x10 x11 y0 (((y0 + x6) - 1) / x6) σ270)))))))))))
def f6_starts_J109 (N : Nat) (x1 : Int32) (x2 : Int32) (x3 : Int32) (x4 : Int32) (x5 : Int32) (x6 : Int32) (x7 : Int32) (x8 : Int32) (x9 : Int32) (x10 : Int32) (y0 : Int32) (σ : Hp) : Option (Unit × Hp) :=
  if y0 = 0 then f6_starts_J136 N x1 x2 x3 x4 x5 x6 x7 x10 y0 (if (x6 * x8) < x9 then (x6 * x8) else x9) σ else f6_starts_J136 N x1 x2 x3 x4 x5 x6 x7 x10 y0 (x6 * (x8 - 1)) σ
def f6_starts_J97 (N : Nat) (x1 : Int32) (x2 : Int32) (x3 : Int32) (x4 : Int32) (x5 : Int32) (x6 : Int32) (x7 : Int32) (x8 : Int32) (x9 : Int32) (y0 : Int32) (σ : Hp) : Option (Unit × Hp) :=
  if y0 < 0 then f6_starts_J109 N x1 x2 x3 x4 x5 x6 x7 x8 x9 y0 0 σ else f6_starts_J109 N x1 x2 x3 x4 x5 x6 x7 x8 x9 y0 1 σ
def f6_starts (N : Nat) (x1 : Int32) (x2 : Int32) (x3 : Int32) (σ : Hp) : Option (Unit × Hp) :=
  gd (!decide ((5 : Int32) = 0)) (gd (!decide ((5 : Int32) = 0)) (bd (f6_of N x1 2 σ) (fun r13 σ13 => bd (f6_head N x1 σ13) (fun r20 σ20 => f6_starts_L28 N x1 x2 x3 (x3 / (5 : Int32)) (x3 - x3 / (5 : Int32) * (5 : Int32)) r13 r20 (fun x8_28 σL28 => gd (vib x1 12) (gd (vib x1 12) (bd (f6_of N x1 4 (st (st σL28 92 x1.toNatClampNeg x2) 95 x1.toNatClampNeg x8_28)) (fun r73 σ73 => if r73 ≤ (r13 * x8_28) then f6_starts_J97 N x1 x2 x3 (x3 / (5 : Int32)) (x3 - x3 / (5 : Int32) * (5 : Int32)) r13 r20 x8_28 r73 (-1) σ73 else bd (f6_goesOn N x2 σ73) (fun r90 σ90 => f6_starts_J97 N x1 x2 x3 (x3 / (5 : Int32)) (x3 - x3 / (5 : Int32) * (5 : Int32)) r13 r20 x8_28 r73 r90 σ90))))) N 2 σ20))))
abbrev rm6_starts : Room := { frames := 5, cells := 0, slots := 0, locals := 128 }
def f6_places_B43 (N : Nat) (x1 : Int32) (x2 : Int32) (K43 : Hp → Option (Unit × Hp)) (r43 : Int32 → Hp → Option (Unit × Hp)) (x3 : Int32) (σ : Hp) : Option (Unit × Hp) :=
  if x2 < x3 then K43 σ else bd (f6_of N x1 2 σ) (fun r53 σ53 => bd (f6_head N x1 σ53) (fun r58 σ58 => bd (f6_block N x3 r53 (r58 + 2) σ58) (fun r63 σ63 => if 0 ≤ r63 then bd (f6_starts N x1 x3 r63 σ63) (fun _ σ81 => some ((), σ81)) else r43 (x3 + 1) σ63)))
def f6_places_L43 (N : Nat) (x1 : Int32) (x2 : Int32) (K43 : Hp → Option (Unit × Hp)) (n : Nat) : Int32 → Hp → Option (Unit × Hp) :=
  it (fun _ _ => none) (f6_places_B43 N x1 x2 K43) n
def f6_places_J35 (N : Nat) (x1 : Int32) (y0 : Int32) (σ : Hp) : Option (Unit × Hp) :=
  bd (f6_of N x1 1 σ) (fun r39 σ39 => f6_places_L43 N x1 y0 (fun σL43 => some ((), σL43)) N r39 σ39)
def f6_places (N : Nat) (x1 : Int32) (σ : Hp) : Option (Unit × Hp) :=
  gd (vib x1 12) (gd (vib x1 12) (bd (f6_of N x1 8 (st (st σ 92 x1.toNatClampNeg (-1)) 93 x1.toNatClampNeg 0)) (fun r18 σ18 => if r18 = (1 : Int32) then bd (f6_of N x1 1 σ18) (fun r28 σ28 => f6_places_J35 N x1 r28 σ28) else f6_places_J35 N x1 3 σ18)))
abbrev rm6_places : Room := { frames := 6, cells := 0, slots := 0, locals := 162 }
def f6_lays_B2 (N : Nat) (x1 : Int32) (K2 : Hp → Option (Unit × Hp)) (r2 : Int32 → Hp → Option (Unit × Hp)) (x2 : Int32) (σ : Hp) : Option (Unit × Hp) :=
  if (480 : Int32) ≤ x2 then K2 σ else gd (vib x2 480) (gd (vib x2 480) (r2 (x2 + 1) (st (st σ 89 x2.toNatClampNeg 0) 90 x2.toNatClampNeg (-1))))
def f6_lays_L2 (N : Nat) (x1 : Int32) (K2 : Hp → Option (Unit × Hp)) (n : Nat) : Int32 → Hp → Option (Unit × Hp) :=
  it (fun _ _ => none) (f6_lays_B2 N x1 K2) n
def f6_lays_J86 (N : Nat) (x1 : Int32) (K31 : Hp → Option (Unit × Hp)) (r31 : Int32 → Hp → Option (Unit × Hp)) (x2 : Int32) (σ : Hp) : Option (Unit × Hp) :=
  r31 (x2 + 1) σ
def f6_lays_B31 (N : Nat) (x1 : Int32) (K31 : Hp → Option (Unit × Hp)) (r31 : Int32 → Hp → Option (Unit × Hp)) (x2 : Int32) (σ : Hp) : Option (Unit × Hp) :=
  if (8 : Int32) ≤ x2 then K31 σ else bd (f6_ad N x2 0 σ) (fun r40 σ40 => if r40 = (1 : Int32) then bd (f6_ad N x2 1 σ40) (fun r51 σ51 => bd (f6_ad N x2 2 σ51) (fun r57 σ57 => bd (f6_ad N x2 3 σ57) (fun r63 σ63 => bd (f6_ad N x2 4 σ63) (fun r69 σ69 => bd (f6_ad N x2 5 σ69) (fun r75 σ75 => bd (f6_fills N r51 r57 r63 r69 r75 1 (100 + x2) σ75) (fun _ σ83 => f6_lays_J86 N x1 K31 r31 x2 σ83)))))) else f6_lays_J86 N x1 K31 r31 x2 σ40)
def f6_lays_L31 (N : Nat) (x1 : Int32) (K31 : Hp → Option (Unit × Hp)) (n : Nat) : Int32 → Hp → Option (Unit × Hp) :=
  it (fun _ _ => none) (f6_lays_B31 N x1 K31) n
def f6_lays_J126 (N : Nat) (x1 : Int32) (K98 : Hp → Option (Unit × Hp)) (r98 : Int32 → Hp → Option (Unit × Hp)) (x2 : Int32) (σ : Hp) : Option (Unit × Hp) :=
  r98 (x2 + 1) σ
def f6_lays_B98 (N : Nat) (x1 : Int32) (K98 : Hp → Option (Unit × Hp)) (r98 : Int32 → Hp → Option (Unit × Hp)) (x2 : Int32) (σ : Hp) : Option (Unit × Hp) :=
  if (σ 84 14) ≤ x2 then K98 σ else gd (vib x2 12) (if (σ 91 x2.toNatClampNeg) = x1 then f6_lays_J126 N x1 K98 r98 x2 σ else gd (vib x2 12) (bd (f6_places N (σ 91 x2.toNatClampNeg) σ) (fun _ σ123 => f6_lays_J126 N x1 K98 r98 x2 σ123)))
def f6_lays_L98 (N : Nat) (x1 : Int32) (K98 : Hp → Option (Unit × Hp)) (n : Nat) : Int32 → Hp → Option (Unit × Hp) :=
  it (fun _ _ => none) (f6_lays_B98 N x1 K98) n
def f6_lays (N : Nat) (x1 : Int32) (σ : Hp) : Option (Unit × Hp) :=
  f6_lays_L2 N x1 (fun σL2 => f6_lays_L31 N x1 (fun σL31 => bd (f6_ranks N σL31) (fun _ σ93 => f6_lays_L98 N x1 (fun σL98 => some ((), σL98)) N 0 σ93)) N 0 σL2) N 0 σ
abbrev rm6_lays : Room := { frames := 7, cells := 0, slots := 0, locals := 186 }
def f6_asks (N : Nat) (σ : Hp) : Option (Unit × Hp) :=
  bd (f6_lays N (-1) (st σ 84 0 0)) (fun _ σ7 => some ((), σ7))
abbrev rm6_asks : Room := { frames := 8, cells := 0, slots := 0, locals := 208 }
def f6_linesOn_B4 (N : Nat) (x1 : Int32) (K4 : Int32 → Hp → Option (Int32 × Hp)) (r4 : Int32 → Int32 → Hp → Option (Int32 × Hp)) (x2 : Int32) (x3 : Int32) (σ : Hp) : Option (Int32 × Hp) :=
  gd (vib x1 12) (if (σ 93 x1.toNatClampNeg) ≤ x3 then K4 x2 σ else gd (vib ((8 * ((4 * x1) + x3)) + 5) 384) (r4 (x2 + (σ 94 ((8 * ((4 * x1) + x3)) + 5).toNatClampNeg)) (x3 + 1) σ))
def f6_linesOn_L4 (N : Nat) (x1 : Int32) (K4 : Int32 → Hp → Option (Int32 × Hp)) (n : Nat) : Int32 → Int32 → Hp → Option (Int32 × Hp) :=
  it (fun _ _ _ => none) (f6_linesOn_B4 N x1 K4) n
def f6_linesOn (N : Nat) (x1 : Int32) (σ : Hp) : Option (Int32 × Hp) :=
  f6_linesOn_L4 N x1 (fun x2_4 σL4 => some (x2_4, σL4)) N 0 0 σ
abbrev rm6_linesOn : Room := { frames := 0, cells := 0, slots := 0, locals := 0 }
def f6_rankOf_B2 (N : Nat) (x1 : Int32) (K2 : Hp → Option (Int32 × Hp)) (r2 : Int32 → Hp → Option (Int32 × Hp)) (x2 : Int32) (σ : Hp) : Option (Int32 × Hp) :=
  if (σ 84 14) ≤ x2 then K2 σ else gd (vib x2 12) (if (σ 91 x2.toNatClampNeg) = x1 then some (x2, σ) else r2 (x2 + 1) σ)
def f6_rankOf_L2 (N : Nat) (x1 : Int32) (K2 : Hp → Option (Int32 × Hp)) (n : Nat) : Int32 → Hp → Option (Int32 × Hp) :=
  it (fun _ _ => none) (f6_rankOf_B2 N x1 K2) n
def f6_rankOf (N : Nat) (x1 : Int32) (σ : Hp) : Option (Int32 × Hp) :=
  f6_rankOf_L2 N x1 (fun σL2 => some ((-1), σL2)) N 0 σ
abbrev rm6_rankOf : Room := { frames := 0, cells := 0, slots := 0, locals := 0 }
def f6_story (N : Nat) (x1 : Int32) (x2 : Int32) (σ : Hp) : Option (Int32 × Hp) :=
  bd (f6_asks N σ) (fun _ σ1 => bd (f6_isStory N x1 σ1) (fun r6 σ6 => if r6 = 0 then bd (f6_fails N 1 σ6) (fun r14 σ14 => some (r14, σ14)) else bd (f6_in N x2 0 12 σ6) (fun r22 σ22 => if r22 = 0 then bd (f6_fails N 2 σ22) (fun r30 σ30 => some (r30, σ30)) else if (8 : Int32) ≤ x2 then if x2 = 8 then bd (f6_rankOf N x1 σ22) (fun r82 σ82 => some (r82, σ82)) else if x2 = 9 then gd (vib x1 12) (some (σ22 92 x1.toNatClampNeg, σ22)) else if x2 = 10 then gd (vib x1 12) (some (σ22 93 x1.toNatClampNeg, σ22)) else if x2 = 11 then bd (f6_linesOn N x1 σ22) (fun r102 σ102 => some (r102, σ102)) else bd (f6_of N x1 4 σ22) (fun r109 σ109 => bd (f6_linesOn N x1 σ109) (fun r114 σ114 => some (r109 - r114, σ114))) else bd (f6_of N x1 (1 + x2) σ22) (fun r45 σ45 => some (r45, σ45)))))
abbrev rm6_story : Room := { frames := 9, cells := 0, slots := 0, locals := 228 }
def f6_advertisement (N : Nat) (x1 : Int32) (x2 : Int32) (σ : Hp) : Option (Int32 × Hp) :=
  bd (f6_isAd N x1 (st σ 84 0 0)) (fun r7 σ7 => if r7 = 0 then bd (f6_fails N 1 σ7) (fun r15 σ15 => some (r15, σ15)) else bd (f6_in N x2 0 6 σ7) (fun r23 σ23 => if r23 = 0 then bd (f6_fails N 2 σ23) (fun r31 σ31 => some (r31, σ31)) else if (6 : Int32) ≤ x2 then bd (f6_ad N x1 6 σ23) (fun r56 σ56 => bd (f6_ad N x1 4 σ56) (fun r62 σ62 => bd (f6_ad N x1 5 σ62) (fun r69 σ69 => some ((r56 * r62) * r69, σ69)))) else bd (f6_ad N x1 (1 + x2) σ23) (fun r46 σ46 => some (r46, σ46))))
abbrev rm6_advertisement : Room := { frames := 2, cells := 0, slots := 0, locals := 43 }
def f6_isCell (N : Nat) (x0 : Int32) (x1 : Int32) (x2 : Int32) (σ : Hp) : Option (Int32 × Hp) :=
  bd (f6_in N x0 0 3 σ) (fun r3 σ3 => if r3 = 0 then some (0, σ3) else bd (f6_in N x1 0 4 σ3) (fun r12 σ12 => if r12 = 0 then some (0, σ12) else bd (f6_in N x2 0 23 σ12) (fun r22 σ22 => if r22 = 0 then some (0, σ22) else some (1, σ22))))
abbrev rm6_isCell : Room := { frames := 1, cells := 0, slots := 0, locals := 22 }
def f6_cell (N : Nat) (x1 : Int32) (x2 : Int32) (x3 : Int32) (σ : Hp) : Option (Int32 × Hp) :=
  bd (f6_asks N σ) (fun _ σ1 => bd (f6_isCell N x1 x2 x3 σ1) (fun r7 σ7 => if r7 = 0 then bd (f6_fails N 1 σ7) (fun r29 σ29 => some (r29, σ29)) else bd (f6_at N x1 x2 x3 σ7) (fun r20 σ20 => gd (vib r20 480) (some (σ20 89 r20.toNatClampNeg, σ20)))))
abbrev rm6_cell : Room := { frames := 9, cells := 0, slots := 0, locals := 228 }
def f6_owner (N : Nat) (x1 : Int32) (x2 : Int32) (x3 : Int32) (σ : Hp) : Option (Int32 × Hp) :=
  bd (f6_asks N σ) (fun _ σ1 => bd (f6_isCell N x1 x2 x3 σ1) (fun r7 σ7 => if r7 = 0 then bd (f6_fails N 1 σ7) (fun r15 σ15 => some (r15, σ15)) else bd (f6_at N x1 x2 x3 σ7) (fun r26 σ26 => gd (vib r26 480) (if 0 ≤ (σ26 90 r26.toNatClampNeg) then some (σ26 90 r26.toNatClampNeg, σ26) else bd (f6_fails N 2 σ26) (fun r39 σ39 => some (r39, σ39))))))
abbrev rm6_owner : Room := { frames := 9, cells := 0, slots := 0, locals := 228 }
def f6_part_J28 (N : Nat) (x1 : Int32) (x2 : Int32) (x3 : Int32) (σ : Hp) : Option (Int32 × Hp) :=
  bd (f6_fails N 1 σ) (fun r30 σ30 => some (r30, σ30))
def f6_part (N : Nat) (x1 : Int32) (x2 : Int32) (x3 : Int32) (σ : Hp) : Option (Int32 × Hp) :=
  bd (f6_asks N σ) (fun _ σ1 => bd (f6_isStory N x1 σ1) (fun r6 σ6 => if r6 = 0 then f6_part_J28 N x1 x2 x3 σ6 else gd (vib x1 12) (bd (f6_in N x2 0 ((σ6 93 x1.toNatClampNeg) - 1) σ6) (fun r22 σ22 => if r22 = 0 then f6_part_J28 N x1 x2 x3 σ22 else bd (f6_in N x3 0 7 σ22) (fun r38 σ38 => if r38 = 0 then bd (f6_fails N 2 σ38) (fun r64 σ64 => some (r64, σ64)) else gd (vib ((8 * ((4 * x1) + x2)) + x3) 384) (some (σ38 94 ((8 * ((4 * x1) + x2)) + x3).toNatClampNeg, σ38)))))))
abbrev rm6_part : Room := { frames := 9, cells := 0, slots := 0, locals := 228 }
def f6_locate_J28 (N : Nat) (x1 : Int32) (x2 : Int32) (σ : Hp) : Option (Int32 × Hp) :=
  bd (f6_fails N 1 σ) (fun r30 σ30 => some (r30, σ30))
def f6_locate_J235 (N : Nat) (x1 : Int32) (x2 : Int32) (x4 : Int32) (x6 : Int32) (K170 : Int32 → Int32 → Hp → Option (Int32 × Hp)) (r170 : Int32 → Int32 → Int32 → Hp → Option (Int32 × Hp)) (x5 : Int32) (x7 : Int32) (y0 : Int32) (y1 : Int32) (σ : Hp) : Option (Int32 × Hp) :=
  r170 x5 x7 (y1 + y0) σ
def f6_locate_B170 (N : Nat) (x1 : Int32) (x2 : Int32) (x4 : Int32) (x6 : Int32) (K170 : Int32 → Int32 → Hp → Option (Int32 × Hp)) (r170 : Int32 → Int32 → Int32 → Hp → Option (Int32 × Hp)) (x5 : Int32) (x7 : Int32) (x8 : Int32) (σ : Hp) : Option (Int32 × Hp) :=
  if x5 < x8 then K170 x5 x7 σ else gd (vib (x4 + 5) 384) (gd (vib (x4 + 3) 384) (gd (!decide ((σ 94 (x4 + 3).toNatClampNeg) = 0)) (gd (vib (x4 + 5) 384) (gd (vib (x4 + 3) 384) (gd (!decide ((σ 94 (x4 + 3).toNatClampNeg) = 0)) (if ((σ 94 (x4 + 5).toNatClampNeg) - (σ 94 (x4 + 5).toNatClampNeg) / (σ 94 (x4 + 3).toNatClampNeg) * (σ 94 (x4 + 3).toNatClampNeg)) ≤ (x7 + 1) then f6_locate_J235 N x1 x2 x4 x6 K170 r170 (x5 - x8) (x7 + 1) 0 ((σ 94 (x4 + 5).toNatClampNeg) / (σ 94 (x4 + 3).toNatClampNeg)) σ else f6_locate_J235 N x1 x2 x4 x6 K170 r170 (x5 - x8) (x7 + 1) 1 ((σ 94 (x4 + 5).toNatClampNeg) / (σ 94 (x4 + 3).toNatClampNeg)) σ))))))
def f6_locate_L170 (N : Nat) (x1 : Int32) (x2 : Int32) (x4 : Int32) (x6 : Int32) (K170 : Int32 → Int32 → Hp → Option (Int32 × Hp)) (n : Nat) : Int32 → Int32 → Int32 → Hp → Option (Int32 × Hp) :=
  it (fun _ _ _ _ => none) (f6_locate_B170 N x1 x2 x4 x6 K170) n
def f6_locate_J167 (N : Nat) (x1 : Int32) (x2 : Int32) (x4 : Int32) (x5 : Int32) (x6 : Int32) (x7 : Int32) (y0 : Int32) (y1 : Int32) (σ : Hp) : Option (Int32 × Hp) :=
  f6_locate_L170 N x1 x2 x4 x6 (fun x5_170 x7_170 σL170 => gd (vib x4 384) (gd (vib (x4 + 1) 384) (some ((((1000 * (σL170 94 x4.toNatClampNeg)) + (100 * ((σL170 94 (x4 + 1).toNatClampNeg) + x7_170))) + x6) + x5_170, σL170)))) N x5 x7 (y1 + y0) σ
def f6_locate_J115 (N : Nat) (x1 : Int32) (x2 : Int32) (x4 : Int32) (x5 : Int32) (y0 : Int32) (y1 : Int32) (σ : Hp) : Option (Int32 × Hp) :=
  gd (vib (x4 + 5) 384) (gd (vib (x4 + 3) 384) (gd (!decide ((σ 94 (x4 + 3).toNatClampNeg) = 0)) (gd (vib (x4 + 5) 384) (gd (vib (x4 + 3) 384) (gd (!decide ((σ 94 (x4 + 3).toNatClampNeg) = 0)) (if ((σ 94 (x4 + 5).toNatClampNeg) - (σ 94 (x4 + 5).toNatClampNeg) / (σ 94 (x4 + 3).toNatClampNeg) * (σ 94 (x4 + 3).toNatClampNeg)) ≤ 0 then f6_locate_J167 N x1 x2 x4 x5 (y1 + y0) 0 0 ((σ 94 (x4 + 5).toNatClampNeg) / (σ 94 (x4 + 3).toNatClampNeg)) σ else f6_locate_J167 N x1 x2 x4 x5 (y1 + y0) 0 1 ((σ 94 (x4 + 5).toNatClampNeg) / (σ 94 (x4 + 3).toNatClampNeg)) σ))))))
def f6_locate_B36 (N : Nat) (x1 : Int32) (x2 : Int32) (K36 : Hp → Option (Int32 × Hp)) (r36 : Int32 → Hp → Option (Int32 × Hp)) (x3 : Int32) (σ : Hp) : Option (Int32 × Hp) :=
  gd (vib x1 12) (if (σ 93 x1.toNatClampNeg) ≤ x3 then K36 σ else gd (vib ((8 * ((4 * x1) + x3)) + 6) 384) (gd (vib ((8 * ((4 * x1) + x3)) + 5) 384) (bd (f6_in N (x2 - (σ 94 ((8 * ((4 * x1) + x3)) + 6).toNatClampNeg)) 0 ((σ 94 ((8 * ((4 * x1) + x3)) + 5).toNatClampNeg) - 1) σ) (fun r84 σ84 => if r84 = 0 then r36 (x3 + 1) σ84 else gd (vib ((8 * ((4 * x1) + x3)) + 2) 384) (if x3 = 0 then bd (f6_head N x1 σ84) (fun r108 σ108 => f6_locate_J115 N x1 x2 (8 * ((4 * x1) + x3)) (x2 - (σ 94 ((8 * ((4 * x1) + x3)) + 6).toNatClampNeg)) r108 (σ84 94 ((8 * ((4 * x1) + x3)) + 2).toNatClampNeg) σ108) else f6_locate_J115 N x1 x2 (8 * ((4 * x1) + x3)) (x2 - (σ 94 ((8 * ((4 * x1) + x3)) + 6).toNatClampNeg)) 1 (σ84 94 ((8 * ((4 * x1) + x3)) + 2).toNatClampNeg) σ84)))))
def f6_locate_L36 (N : Nat) (x1 : Int32) (x2 : Int32) (K36 : Hp → Option (Int32 × Hp)) (n : Nat) : Int32 → Hp → Option (Int32 × Hp) :=
  it (fun _ _ => none) (f6_locate_B36 N x1 x2 K36) n
def f6_locate (N : Nat) (x1 : Int32) (x2 : Int32) (σ : Hp) : Option (Int32 × Hp) :=
  bd (f6_asks N σ) (fun _ σ1 => bd (f6_isStory N x1 σ1) (fun r6 σ6 => if r6 = 0 then f6_locate_J28 N x1 x2 σ6 else bd (f6_of N x1 4 σ6) (fun r17 σ17 => bd (f6_in N x2 0 (r17 - 1) σ17) (fun r22 σ22 => if r22 = 0 then f6_locate_J28 N x1 x2 σ22 else f6_locate_L36 N x1 x2 (fun σL36 => bd (f6_fails N 2 σL36) (fun r283 σ283 => some (r283, σ283))) N 0 σ22))))
abbrev rm6_locate : Room := { frames := 9, cells := 0, slots := 0, locals := 228 }
def f6_ranked (N : Nat) (x1 : Int32) (σ : Hp) : Option (Int32 × Hp) :=
  bd (f6_asks N σ) (fun _ σ1 => bd (f6_in N x1 0 ((σ1 84 14) - 1) σ1) (fun r12 σ12 => if r12 = 0 then bd (f6_fails N 1 σ12) (fun r29 σ29 => some (r29, σ29)) else gd (vib x1 12) (some (σ12 91 x1.toNatClampNeg, σ12))))
abbrev rm6_ranked : Room := { frames := 9, cells := 0, slots := 0, locals := 228 }
def f6_fateOf (N : Nat) (x1 : Int32) (σ : Hp) : Option (Int32 × Hp) :=
  gd (vib x1 12) (if 0 ≤ (σ 92 x1.toNatClampNeg) then gd (vib x1 12) (bd (f6_of N x1 1 σ) (fun r20 σ20 => if (σ 92 x1.toNatClampNeg) = r20 then bd (f6_linesOn N x1 σ20) (fun r30 σ30 => bd (f6_of N x1 4 σ30) (fun r36 σ36 => if r36 ≤ r30 then some (0, σ36) else some (1, σ36))) else some (2, σ20))) else some (3, σ))
abbrev rm6_fateOf : Room := { frames := 1, cells := 0, slots := 0, locals := 23 }
def f6_fate (N : Nat) (x1 : Int32) (σ : Hp) : Option (Int32 × Hp) :=
  bd (f6_asks N σ) (fun _ σ1 => bd (f6_isStory N x1 σ1) (fun r6 σ6 => if r6 = 0 then bd (f6_fails N 1 σ6) (fun r22 σ22 => some (r22, σ22)) else bd (f6_fateOf N x1 σ6) (fun r14 σ14 => some (r14, σ14))))
abbrev rm6_fate : Room := { frames := 9, cells := 0, slots := 0, locals := 228 }
def f6_blamed_B47 (N : Nat) (x1 : Int32) (K47 : Hp → Option (Int32 × Hp)) (r47 : Int32 → Hp → Option (Int32 × Hp)) (x2 : Int32) (σ : Hp) : Option (Int32 × Hp) :=
  if x2 < 0 then K47 σ else gd (vib x2 12) (bd (f6_lays N (σ 91 x2.toNatClampNeg) σ) (fun _ σ60 => gd (vib x1 12) (bd (f6_of N x1 1 σ60) (fun r72 σ72 => if (σ60 92 x1.toNatClampNeg) = r72 then some (σ 91 x2.toNatClampNeg, σ72) else r47 (x2 + (-1)) σ72))))
def f6_blamed_L47 (N : Nat) (x1 : Int32) (K47 : Hp → Option (Int32 × Hp)) (n : Nat) : Int32 → Hp → Option (Int32 × Hp) :=
  it (fun _ _ => none) (f6_blamed_B47 N x1 K47) n
def f6_blamed (N : Nat) (x1 : Int32) (σ : Hp) : Option (Int32 × Hp) :=
  bd (f6_asks N σ) (fun _ σ1 => bd (f6_isStory N x1 σ1) (fun r6 σ6 => if r6 = 0 then bd (f6_fails N 1 σ6) (fun r14 σ14 => some (r14, σ14)) else gd (vib x1 12) (bd (f6_of N x1 1 σ6) (fun r27 σ27 => if (σ6 92 x1.toNatClampNeg) = r27 then bd (f6_fails N 2 σ27) (fun r35 σ35 => some (r35, σ35)) else bd (f6_rankOf N x1 σ27) (fun r41 σ41 => f6_blamed_L47 N x1 (fun σL47 => bd (f6_fails N 2 σL47) (fun r88 σ88 => some (r88, σ88))) N (r41 - 1) σ41)))))
abbrev rm6_blamed : Room := { frames := 9, cells := 0, slots := 0, locals := 228 }
def f6_linesIf_J30 (N : Nat) (x1 : Int32) (x2 : Int32) (y0 : Int32) (y1 : Int32) (σ : Hp) : Option (Int32 × Hp) :=
  bd (f6_laysLate N y1 y0 σ) (fun r30 σ30 => bd (f6_lays N (-1) σ30) (fun _ σ36 => bd (f6_linesOn N x1 σ36) (fun r41 σ41 => bd (f6_laysLate N x1 r30 σ41) (fun r49 σ49 => some (r41, σ49)))))
def f6_linesIf (N : Nat) (x1 : Int32) (x2 : Int32) (σ : Hp) : Option (Int32 × Hp) :=
  bd (f6_isStory N x1 (st σ 84 0 0)) (fun r7 σ7 => if r7 = 0 then bd (f6_fails N 1 σ7) (fun r15 σ15 => some (r15, σ15)) else if x2 = 0 then f6_linesIf_J30 N x1 x2 0 x1 σ7 else f6_linesIf_J30 N x1 x2 1 x1 σ7)
abbrev rm6_linesIf : Room := { frames := 8, cells := 0, slots := 0, locals := 208 }
def f6_trim (N : Nat) (x1 : Int32) (σ : Hp) : Option (Int32 × Hp) :=
  bd (f6_asks N σ) (fun _ σ1 => bd (f6_isStory N x1 σ1) (fun r6 σ6 => if r6 = 0 then bd (f6_fails N 1 σ6) (fun r14 σ14 => some (r14, σ14)) else gd (vib x1 12) (if 0 ≤ (σ6 92 x1.toNatClampNeg) then bd (f6_of N x1 4 σ6) (fun r39 σ39 => bd (f6_of N x1 2 σ39) (fun r45 σ45 => gd (vib x1 12) (some (if (0 : Int32) < (r39 - (r45 * (σ45 95 x1.toNatClampNeg))) then (r39 - (r45 * (σ45 95 x1.toNatClampNeg))) else (0 : Int32), σ45)))) else bd (f6_fails N 2 σ6) (fun r29 σ29 => some (r29, σ29)))))
abbrev rm6_trim : Room := { frames := 9, cells := 0, slots := 0, locals := 228 }
def f6_count_B43 (N : Nat) (x1 : Int32) (K43 : Int32 → Hp → Option (Int32 × Hp)) (r43 : Int32 → Int32 → Hp → Option (Int32 × Hp)) (x2 : Int32) (x3 : Int32) (σ : Hp) : Option (Int32 × Hp) :=
  if (8 : Int32) ≤ x3 then K43 x2 σ else if x1 = (7 : Int32) then bd (f6_ad N x3 0 σ) (fun r59 σ59 => bd (f6_ad N x3 6 σ59) (fun r66 σ66 => bd (f6_ad N x3 4 σ66) (fun r73 σ73 => bd (f6_ad N x3 5 σ73) (fun r80 σ80 => r43 (x2 + (((r59 * r66) * r73) * r80)) (x3 + 1) σ80)))) else K43 x2 σ
def f6_count_L43 (N : Nat) (x1 : Int32) (K43 : Int32 → Hp → Option (Int32 × Hp)) (n : Nat) : Int32 → Int32 → Hp → Option (Int32 × Hp) :=
  it (fun _ _ _ => none) (f6_count_B43 N x1 K43) n
def f6_count_B116 (N : Nat) (x1 : Int32) (K94 : Int32 → Hp → Option (Int32 × Hp)) (r94 : Int32 → Int32 → Hp → Option (Int32 × Hp)) (x2 : Int32) (x3 : Int32) (x4 : Int32) (K116 : Int32 → Hp → Option (Int32 × Hp)) (r116 : Int32 → Int32 → Hp → Option (Int32 × Hp)) (x5 : Int32) (x6 : Int32) (σ : Hp) : Option (Int32 × Hp) :=
  gd (vib x4 12) (if (σ 93 x4.toNatClampNeg) ≤ x6 then K116 x5 σ else gd (vib ((8 * ((4 * x4) + x6)) + 7) 384) (r116 (x5 + (σ 94 ((8 * ((4 * x4) + x6)) + 7).toNatClampNeg)) (x6 + 1) σ))
def f6_count_L116 (N : Nat) (x1 : Int32) (K94 : Int32 → Hp → Option (Int32 × Hp)) (r94 : Int32 → Int32 → Hp → Option (Int32 × Hp)) (x2 : Int32) (x3 : Int32) (x4 : Int32) (K116 : Int32 → Hp → Option (Int32 × Hp)) (n : Nat) : Int32 → Int32 → Hp → Option (Int32 × Hp) :=
  it (fun _ _ _ => none) (f6_count_B116 N x1 K94 r94 x2 x3 x4 K116) n
def f6_count_J252 (N : Nat) (x1 : Int32) (K94 : Int32 → Hp → Option (Int32 × Hp)) (r94 : Int32 → Int32 → Hp → Option (Int32 × Hp)) (x3 : Int32) (y0 : Int32) (y1 : Int32) (σ : Hp) : Option (Int32 × Hp) :=
  r94 (y1 + y0) (x3 + 1) σ
def f6_count_B94 (N : Nat) (x1 : Int32) (K94 : Int32 → Hp → Option (Int32 × Hp)) (r94 : Int32 → Int32 → Hp → Option (Int32 × Hp)) (x2 : Int32) (x3 : Int32) (σ : Hp) : Option (Int32 × Hp) :=
  if (σ 84 14) ≤ x3 then K94 x2 σ else gd (vib x3 12) (f6_count_L116 N x1 K94 r94 x2 x3 (σ 91 x3.toNatClampNeg) (fun x5_116 σL116 => if x1 = (2 : Int32) then bd (f6_fateOf N (σ 91 x3.toNatClampNeg) σL116) (fun r166 σ166 => if r166 = (3 : Int32) then f6_count_J252 N x1 K94 r94 x3 1 x2 σ166 else f6_count_J252 N x1 K94 r94 x3 0 x2 σ166) else if x1 = (3 : Int32) then bd (f6_fateOf N (σ 91 x3.toNatClampNeg) σL116) (fun r189 σ189 => if r189 = (2 : Int32) then f6_count_J252 N x1 K94 r94 x3 1 x2 σ189 else f6_count_J252 N x1 K94 r94 x3 0 x2 σ189) else if x1 = (4 : Int32) then f6_count_J252 N x1 K94 r94 x3 x5_116 x2 σL116 else if x1 = (5 : Int32) then bd (f6_linesOn N (σ 91 x3.toNatClampNeg) σL116) (fun r222 σ222 => f6_count_J252 N x1 K94 r94 x3 r222 x2 σ222) else if x1 = (6 : Int32) then bd (f6_of N (σ 91 x3.toNatClampNeg) 4 σL116) (fun r238 σ238 => bd (f6_linesOn N (σ 91 x3.toNatClampNeg) σ238) (fun r244 σ244 => f6_count_J252 N x1 K94 r94 x3 (r238 - r244) x2 σ244)) else f6_count_J252 N x1 K94 r94 x3 0 x2 σL116) N 0 0 σ)
def f6_count_L94 (N : Nat) (x1 : Int32) (K94 : Int32 → Hp → Option (Int32 × Hp)) (n : Nat) : Int32 → Int32 → Hp → Option (Int32 × Hp) :=
  it (fun _ _ _ => none) (f6_count_B94 N x1 K94) n
def f6_count_J35 (N : Nat) (x1 : Int32) (y0 : Int32) (σ : Hp) : Option (Int32 × Hp) :=
  bd (f6_many N y0 σ) (fun r35 σ35 => some (r35, σ35))
def f6_count (N : Nat) (x1 : Int32) (σ : Hp) : Option (Int32 × Hp) :=
  bd (f6_asks N σ) (fun _ σ1 => bd (f6_in N x1 0 7 σ1) (fun r8 σ8 => if r8 = 0 then bd (f6_fails N 1 σ8) (fun r16 σ16 => some (r16, σ16)) else if (2 : Int32) ≤ x1 then f6_count_L43 N x1 (fun x2_43 σL43 => f6_count_L94 N x1 (fun x2_94 σL94 => some (x2_94, σL94)) N x2_43 0 σL43) N 0 0 σ8 else if x1 = 0 then f6_count_J35 N x1 1 σ8 else f6_count_J35 N x1 0 σ8))
abbrev rm6_count : Room := { frames := 9, cells := 0, slots := 0, locals := 228 }
def f6_cellCount_J69 (N : Nat) (x1 : Int32) (x2 : Int32) (K40 : Int32 → Hp → Option (Int32 × Hp)) (r40 : Int32 → Int32 → Hp → Option (Int32 × Hp)) (x4 : Int32) (y0 : Int32) (y1 : Int32) (σ : Hp) : Option (Int32 × Hp) :=
  r40 (y1 + y0) (x4 + 1) σ
def f6_cellCount_B40 (N : Nat) (x1 : Int32) (x2 : Int32) (K40 : Int32 → Hp → Option (Int32 × Hp)) (r40 : Int32 → Int32 → Hp → Option (Int32 × Hp)) (x3 : Int32) (x4 : Int32) (σ : Hp) : Option (Int32 × Hp) :=
  if (120 : Int32) ≤ x4 then K40 x3 σ else gd (vib ((120 * x1) + x4) 480) (if (σ 89 ((120 * x1) + x4).toNatClampNeg) = x2 then f6_cellCount_J69 N x1 x2 K40 r40 x4 1 x3 σ else f6_cellCount_J69 N x1 x2 K40 r40 x4 0 x3 σ)
def f6_cellCount_L40 (N : Nat) (x1 : Int32) (x2 : Int32) (K40 : Int32 → Hp → Option (Int32 × Hp)) (n : Nat) : Int32 → Int32 → Hp → Option (Int32 × Hp) :=
  it (fun _ _ _ => none) (f6_cellCount_B40 N x1 x2 K40) n
def f6_cellCount (N : Nat) (x1 : Int32) (x2 : Int32) (σ : Hp) : Option (Int32 × Hp) :=
  bd (f6_asks N σ) (fun _ σ1 => bd (f6_in N x1 0 3 σ1) (fun r7 σ7 => if r7 = 0 then bd (f6_fails N 1 σ7) (fun r15 σ15 => some (r15, σ15)) else bd (f6_in N x2 0 8 σ7) (fun r23 σ23 => if r23 = 0 then bd (f6_fails N 2 σ23) (fun r31 σ31 => some (r31, σ31)) else f6_cellCount_L40 N x1 x2 (fun x3_40 σL40 => some (x3_40, σL40)) N 0 0 σ23)))
abbrev rm6_cellCount : Room := { frames := 9, cells := 0, slots := 0, locals := 228 }
def f6_filledIn_J44 (N : Nat) (x1 : Int32) (x2 : Int32) (K5 : Int32 → Hp → Option (Int32 × Hp)) (r5 : Int32 → Int32 → Hp → Option (Int32 × Hp)) (x4 : Int32) (y0 : Int32) (y1 : Int32) (σ : Hp) : Option (Int32 × Hp) :=
  r5 (y1 + y0) (x4 + 1) σ
def f6_filledIn_J43 (N : Nat) (x1 : Int32) (x2 : Int32) (K5 : Int32 → Hp → Option (Int32 × Hp)) (r5 : Int32 → Int32 → Hp → Option (Int32 × Hp)) (x4 : Int32) (y0 : Int32) (σ : Hp) : Option (Int32 × Hp) :=
  f6_filledIn_J44 N x1 x2 K5 r5 x4 0 y0 σ
def f6_filledIn_B5 (N : Nat) (x1 : Int32) (x2 : Int32) (K5 : Int32 → Hp → Option (Int32 × Hp)) (r5 : Int32 → Int32 → Hp → Option (Int32 × Hp)) (x3 : Int32) (x4 : Int32) (σ : Hp) : Option (Int32 × Hp) :=
  if (24 : Int32) ≤ x4 then K5 x3 σ else bd (f6_at N x1 x2 x4 σ) (fun r20 σ20 => gd (vib r20 480) (if (σ20 89 r20.toNatClampNeg) = 0 then f6_filledIn_J43 N x1 x2 K5 r5 x4 x3 σ20 else if (σ20 89 r20.toNatClampNeg) = (8 : Int32) then f6_filledIn_J43 N x1 x2 K5 r5 x4 x3 σ20 else f6_filledIn_J44 N x1 x2 K5 r5 x4 1 x3 σ20))
def f6_filledIn_L5 (N : Nat) (x1 : Int32) (x2 : Int32) (K5 : Int32 → Hp → Option (Int32 × Hp)) (n : Nat) : Int32 → Int32 → Hp → Option (Int32 × Hp) :=
  it (fun _ _ _ => none) (f6_filledIn_B5 N x1 x2 K5) n
def f6_filledIn (N : Nat) (x1 : Int32) (x2 : Int32) (σ : Hp) : Option (Int32 × Hp) :=
  f6_filledIn_L5 N x1 x2 (fun x3_5 σL5 => some (x3_5, σL5)) N 0 0 σ
abbrev rm6_filledIn : Room := { frames := 1, cells := 0, slots := 0, locals := 22 }
def f6_isSound_J30 (N : Nat) (K8 : Int32 → Hp → Option (Int32 × Hp)) (r8 : Int32 → Int32 → Hp → Option (Int32 × Hp)) (x2 : Int32) (y0 : Int32) (y1 : Int32) (σ : Hp) : Option (Int32 × Hp) :=
  r8 (y1 + y0) (x2 + 1) σ
def f6_isSound_B8 (N : Nat) (K8 : Int32 → Hp → Option (Int32 × Hp)) (r8 : Int32 → Int32 → Hp → Option (Int32 × Hp)) (x1 : Int32) (x2 : Int32) (σ : Hp) : Option (Int32 × Hp) :=
  if (480 : Int32) ≤ x2 then K8 x1 σ else gd (vib x2 480) (if (σ 89 x2.toNatClampNeg) = 0 then f6_isSound_J30 N K8 r8 x2 0 x1 σ else f6_isSound_J30 N K8 r8 x2 1 x1 σ)
def f6_isSound_L8 (N : Nat) (K8 : Int32 → Hp → Option (Int32 × Hp)) (n : Nat) : Int32 → Int32 → Hp → Option (Int32 × Hp) :=
  it (fun _ _ _ => none) (f6_isSound_B8 N K8) n
def f6_isSound_B42 (N : Nat) (x1 : Int32) (K42 : Int32 → Hp → Option (Int32 × Hp)) (r42 : Int32 → Int32 → Hp → Option (Int32 × Hp)) (x2 : Int32) (x3 : Int32) (σ : Hp) : Option (Int32 × Hp) :=
  if (8 : Int32) ≤ x3 then K42 x2 σ else bd (f6_ad N x3 0 σ) (fun r52 σ52 => bd (f6_ad N x3 4 σ52) (fun r58 σ58 => bd (f6_ad N x3 5 σ58) (fun r65 σ65 => r42 (x2 + ((r52 * r58) * r65)) (x3 + 1) σ65)))
def f6_isSound_L42 (N : Nat) (x1 : Int32) (K42 : Int32 → Hp → Option (Int32 × Hp)) (n : Nat) : Int32 → Int32 → Hp → Option (Int32 × Hp) :=
  it (fun _ _ _ => none) (f6_isSound_B42 N x1 K42) n
def f6_isSound_B90 (N : Nat) (x1 : Int32) (K79 : Int32 → Hp → Option (Int32 × Hp)) (r79 : Int32 → Int32 → Hp → Option (Int32 × Hp)) (x3 : Int32) (K90 : Int32 → Hp → Option (Int32 × Hp)) (r90 : Int32 → Int32 → Hp → Option (Int32 × Hp)) (x2 : Int32) (x4 : Int32) (σ : Hp) : Option (Int32 × Hp) :=
  gd (vib x3 12) (gd (vib (σ 91 x3.toNatClampNeg) 12) (if (σ 93 (σ 91 x3.toNatClampNeg).toNatClampNeg) ≤ x4 then K90 x2 σ else gd (vib x3 12) (gd (vib ((8 * ((4 * (σ 91 x3.toNatClampNeg)) + x4)) + 3) 384) (gd (vib x3 12) (gd (vib ((8 * ((4 * (σ 91 x3.toNatClampNeg)) + x4)) + 4) 384) (r90 (x2 + ((σ 94 ((8 * ((4 * (σ 91 x3.toNatClampNeg)) + x4)) + 3).toNatClampNeg) * (σ 94 ((8 * ((4 * (σ 91 x3.toNatClampNeg)) + x4)) + 4).toNatClampNeg))) (x4 + 1) σ))))))
def f6_isSound_L90 (N : Nat) (x1 : Int32) (K79 : Int32 → Hp → Option (Int32 × Hp)) (r79 : Int32 → Int32 → Hp → Option (Int32 × Hp)) (x3 : Int32) (K90 : Int32 → Hp → Option (Int32 × Hp)) (n : Nat) : Int32 → Int32 → Hp → Option (Int32 × Hp) :=
  it (fun _ _ _ => none) (f6_isSound_B90 N x1 K79 r79 x3 K90) n
def f6_isSound_B79 (N : Nat) (x1 : Int32) (K79 : Int32 → Hp → Option (Int32 × Hp)) (r79 : Int32 → Int32 → Hp → Option (Int32 × Hp)) (x2 : Int32) (x3 : Int32) (σ : Hp) : Option (Int32 × Hp) :=
  if (σ 84 14) ≤ x3 then K79 x2 σ else f6_isSound_L90 N x1 K79 r79 x3 (fun x2_90 σL90 => r79 x2_90 (x3 + 1) σL90) N x2 0 σ
def f6_isSound_L79 (N : Nat) (x1 : Int32) (K79 : Int32 → Hp → Option (Int32 × Hp)) (n : Nat) : Int32 → Int32 → Hp → Option (Int32 × Hp) :=
  it (fun _ _ _ => none) (f6_isSound_B79 N x1 K79) n
def f6_isSound (N : Nat) (σ : Hp) : Option (Int32 × Hp) :=
  bd (f6_asks N σ) (fun _ σ1 => f6_isSound_L8 N (fun x1_8 σL8 => f6_isSound_L42 N x1_8 (fun x2_42 σL42 => f6_isSound_L79 N x1_8 (fun x2_79 σL79 => if x1_8 = x2_79 then some (1, σL79) else some (0, σL79)) N x2_42 0 σL42) N 0 0 σL8) N 0 0 σ1)
abbrev rm6_isSound : Room := { frames := 9, cells := 0, slots := 0, locals := 228 }
def f6_layDown_J48 (N : Nat) (x1 : Int32) (x2 : Int32) (x3 : Int32) (x4 : Int32) (σ : Hp) : Option (Int32 × Hp) :=
  bd (f6_fails N 1 σ) (fun r50 σ50 => some (r50, σ50))
def f6_layDown_J155 (N : Nat) (x1 : Int32) (x2 : Int32) (x3 : Int32) (x4 : Int32) (x5 : Int32) (K104 : Hp → Option (Int32 × Hp)) (r104 : Int32 → Hp → Option (Int32 × Hp)) (x6 : Int32) (y0 : Int32) (y1 : Int32) (σ : Hp) : Option (Int32 × Hp) :=
  gd (vib y1 108) (r104 (x6 + 1) (st σ 97 y1.toNatClampNeg y0))
def f6_layDown_J117 (N : Nat) (x1 : Int32) (x2 : Int32) (x3 : Int32) (x4 : Int32) (x5 : Int32) (K104 : Hp → Option (Int32 × Hp)) (r104 : Int32 → Hp → Option (Int32 × Hp)) (x6 : Int32) (y0 : Int32) (y1 : Int32) (σ : Hp) : Option (Int32 × Hp) :=
  if y0 ≤ y1 then K104 σ else if x3 = 0 then bd (f6_ad N x4 x6 σ) (fun r152 σ152 => f6_layDown_J155 N x1 x2 x3 x4 x5 K104 r104 x6 r152 ((9 * x5) + x6) σ152) else bd (f6_of N x4 x6 σ) (fun r141 σ141 => f6_layDown_J155 N x1 x2 x3 x4 x5 K104 r104 x6 r141 ((9 * x5) + x6) σ141)
def f6_layDown_B104 (N : Nat) (x1 : Int32) (x2 : Int32) (x3 : Int32) (x4 : Int32) (x5 : Int32) (K104 : Hp → Option (Int32 × Hp)) (r104 : Int32 → Hp → Option (Int32 × Hp)) (x6 : Int32) (σ : Hp) : Option (Int32 × Hp) :=
  if x3 = 0 then f6_layDown_J117 N x1 x2 x3 x4 x5 K104 r104 x6 7 x6 σ else f6_layDown_J117 N x1 x2 x3 x4 x5 K104 r104 x6 9 x6 σ
def f6_layDown_L104 (N : Nat) (x1 : Int32) (x2 : Int32) (x3 : Int32) (x4 : Int32) (x5 : Int32) (K104 : Hp → Option (Int32 × Hp)) (n : Nat) : Int32 → Hp → Option (Int32 × Hp) :=
  it (fun _ _ => none) (f6_layDown_B104 N x1 x2 x3 x4 x5 K104) n
def f6_layDown_J195 (N : Nat) (x1 : Int32) (x2 : Int32) (x3 : Int32) (x4 : Int32) (K168 : Int32 → Hp → Option (Int32 × Hp)) (r168 : Int32 → Int32 → Hp → Option (Int32 × Hp)) (x7 : Int32) (y0 : Int32) (y1 : Int32) (σ : Hp) : Option (Int32 × Hp) :=
  r168 (y1 + y0) (x7 + 1) σ
def f6_layDown_B168 (N : Nat) (x1 : Int32) (x2 : Int32) (x3 : Int32) (x4 : Int32) (K168 : Int32 → Hp → Option (Int32 × Hp)) (r168 : Int32 → Int32 → Hp → Option (Int32 × Hp)) (x6 : Int32) (x7 : Int32) (σ : Hp) : Option (Int32 × Hp) :=
  if (4 : Int32) ≤ x7 then K168 x6 σ else gd (vib ((4 * x1) + x7) 12) (if (σ 96 ((4 * x1) + x7).toNatClampNeg) ≤ 0 then f6_layDown_J195 N x1 x2 x3 x4 K168 r168 x7 0 x6 σ else f6_layDown_J195 N x1 x2 x3 x4 K168 r168 x7 1 x6 σ)
def f6_layDown_L168 (N : Nat) (x1 : Int32) (x2 : Int32) (x3 : Int32) (x4 : Int32) (K168 : Int32 → Hp → Option (Int32 × Hp)) (n : Nat) : Int32 → Int32 → Hp → Option (Int32 × Hp) :=
  it (fun _ _ _ => none) (f6_layDown_B168 N x1 x2 x3 x4 K168) n
def f6_layDown_J100 (N : Nat) (x1 : Int32) (x2 : Int32) (x3 : Int32) (x4 : Int32) (x5 : Int32) (y0 : Int32) (y1 : Int32) (σ : Hp) : Option (Int32 × Hp) :=
  gd (vib y1 12) (f6_layDown_L104 N x1 x2 x3 x4 x5 (fun σL104 => f6_layDown_L168 N x1 x2 x3 x4 (fun x6_168 σL168 => some (x6_168, σL168)) N 0 0 σL104) N 0 (st σ 96 y1.toNatClampNeg y0))
def f6_layDown_J78 (N : Nat) (x1 : Int32) (x2 : Int32) (x3 : Int32) (x4 : Int32) (σ : Hp) : Option (Int32 × Hp) :=
  if x3 = 0 then f6_layDown_J100 N x1 x2 x3 x4 ((4 * x1) + x2) 2 ((4 * x1) + x2) σ else f6_layDown_J100 N x1 x2 x3 x4 ((4 * x1) + x2) 1 ((4 * x1) + x2) σ
def f6_layDown_J68 (N : Nat) (x1 : Int32) (x2 : Int32) (x3 : Int32) (x4 : Int32) (y0 : Int32) (σ : Hp) : Option (Int32 × Hp) :=
  if y0 = x3 then f6_layDown_J78 N x1 x2 x3 x4 σ else bd (f6_fails N 2 σ) (fun r74 σ74 => some (r74, σ74))
def f6_layDown_J54 (N : Nat) (x1 : Int32) (x2 : Int32) (x3 : Int32) (x4 : Int32) (σ : Hp) : Option (Int32 × Hp) :=
  if (2 : Int32) ≤ x1 then f6_layDown_J78 N x1 x2 x3 x4 σ else if x1 = 0 then f6_layDown_J68 N x1 x2 x3 x4 1 σ else f6_layDown_J68 N x1 x2 x3 x4 0 σ
def f6_layDown (N : Nat) (x1 : Int32) (x2 : Int32) (x3 : Int32) (x4 : Int32) (σ : Hp) : Option (Int32 × Hp) :=
  bd (f6_in N x1 0 2 (st σ 84 0 0)) (fun r8 σ8 => if r8 = 0 then f6_layDown_J48 N x1 x2 x3 x4 σ8 else bd (f6_in N x2 0 3 σ8) (fun r17 σ17 => if r17 = 0 then f6_layDown_J48 N x1 x2 x3 x4 σ17 else if x3 = 0 then bd (f6_isAd N x4 σ17) (fun r42 σ42 => if r42 = 0 then f6_layDown_J48 N x1 x2 x3 x4 σ42 else f6_layDown_J54 N x1 x2 x3 x4 σ42) else bd (f6_isStory N x4 σ17) (fun r30 σ30 => if r30 = 0 then f6_layDown_J48 N x1 x2 x3 x4 σ30 else f6_layDown_J54 N x1 x2 x3 x4 σ30)))
abbrev rm6_layDown : Room := { frames := 2, cells := 0, slots := 0, locals := 43 }
def f6_takeUp_J22 (N : Nat) (x1 : Int32) (x2 : Int32) (σ : Hp) : Option (Int32 × Hp) :=
  bd (f6_fails N 1 σ) (fun r24 σ24 => some (r24, σ24))
def f6_takeUp_B184 (N : Nat) (x1 : Int32) (x2 : Int32) (x4 : Int32) (x5 : Int32) (K184 : Hp → Option (Int32 × Hp)) (r184 : Int32 → Hp → Option (Int32 × Hp)) (x6 : Int32) (σ : Hp) : Option (Int32 × Hp) :=
  if (9 : Int32) ≤ x6 then K184 σ else if (σ 84 0) = 0 then gd (vib (x4 + x6) 108) (gd (vib ((2 + (9 * x5)) + x6) 166) (r184 (x6 + 1) (st σ 85 ((2 + (9 * x5)) + x6).toNatClampNeg (σ 97 (x4 + x6).toNatClampNeg)))) else K184 σ
def f6_takeUp_L184 (N : Nat) (x1 : Int32) (x2 : Int32) (x4 : Int32) (x5 : Int32) (K184 : Hp → Option (Int32 × Hp)) (n : Nat) : Int32 → Hp → Option (Int32 × Hp) :=
  it (fun _ _ => none) (f6_takeUp_B184 N x1 x2 x4 x5 K184) n
def f6_takeUp (N : Nat) (x1 : Int32) (x2 : Int32) (σ : Hp) : Option (Int32 × Hp) :=
  bd (f6_begins N σ) (fun _ σ1 => bd (f6_in N x1 0 2 σ1) (fun r7 σ7 => if r7 = 0 then f6_takeUp_J22 N x1 x2 σ7 else bd (f6_in N x2 0 3 σ7) (fun r16 σ16 => if r16 = 0 then f6_takeUp_J22 N x1 x2 σ16 else gd (vib ((4 * x1) + x2) 12) (if (σ16 96 ((4 * x1) + x2).toNatClampNeg) = 0 then bd (f6_fails N 2 σ16) (fun r45 σ45 => some (r45, σ45)) else gd (vib ((4 * x1) + x2) 12) (if (σ16 96 ((4 * x1) + x2).toNatClampNeg) = (2 : Int32) then gd (vib ((9 * ((4 * x1) + x2)) + 1) 108) (gd (vib ((9 * ((4 * x1) + x2)) + 2) 108) (gd (vib ((9 * ((4 * x1) + x2)) + 3) 108) (gd (vib ((9 * ((4 * x1) + x2)) + 4) 108) (gd (vib ((9 * ((4 * x1) + x2)) + 5) 108) (gd (vib ((9 * ((4 * x1) + x2)) + 6) 108) (bd (f6_laysAd N (σ16 97 ((9 * ((4 * x1) + x2)) + 1).toNatClampNeg) (σ16 97 ((9 * ((4 * x1) + x2)) + 2).toNatClampNeg) (σ16 97 ((9 * ((4 * x1) + x2)) + 3).toNatClampNeg) (σ16 97 ((9 * ((4 * x1) + x2)) + 4).toNatClampNeg) (σ16 97 ((9 * ((4 * x1) + x2)) + 5).toNatClampNeg) (σ16 97 ((9 * ((4 * x1) + x2)) + 6).toNatClampNeg) σ16) (fun r122 σ122 => bd (f6_ends N r122 σ122) (fun r125 σ125 => some (r125, σ125))))))))) else gd (vib ((9 * ((4 * x1) + x2)) + 1) 108) (gd (vib ((9 * ((4 * x1) + x2)) + 2) 108) (gd (vib ((9 * ((4 * x1) + x2)) + 3) 108) (gd (vib ((9 * ((4 * x1) + x2)) + 4) 108) (gd (vib ((9 * ((4 * x1) + x2)) + 5) 108) (bd (f6_laysStory N (σ16 97 ((9 * ((4 * x1) + x2)) + 1).toNatClampNeg) (σ16 97 ((9 * ((4 * x1) + x2)) + 2).toNatClampNeg) (σ16 97 ((9 * ((4 * x1) + x2)) + 3).toNatClampNeg) (σ16 97 ((9 * ((4 * x1) + x2)) + 4).toNatClampNeg) (σ16 97 ((9 * ((4 * x1) + x2)) + 5).toNatClampNeg) σ16) (fun r175 σ175 => f6_takeUp_L184 N x1 x2 (9 * ((4 * x1) + x2)) r175 (fun σL184 => bd (f6_ends N r175 σL184) (fun r232 σ232 => some (r232, σ232))) N 6 σ175)))))))))))
abbrev rm6_takeUp : Room := { frames := 3, cells := 0, slots := 0, locals := 78 }
def f6_feed (N : Nat) (x1 : Int32) (σ : Hp) : Option (Int32 × Hp) :=
  if ((st σ 84 0 0) 84 19) = (80 : Int32) then bd (f6_fails N 1 (st σ 84 0 0)) (fun r16 σ16 => some (r16, σ16)) else gd (vib ((st σ 84 0 0) 84 19) 80) (some ((st (st (st σ 84 0 0) 98 ((st σ 84 0 0) 84 19).toNatClampNeg x1) 84 19 (((st (st σ 84 0 0) 98 ((st σ 84 0 0) 84 19).toNatClampNeg x1) 84 19) + 1)) 84 19, (st (st (st σ 84 0 0) 98 ((st σ 84 0 0) 84 19).toNatClampNeg x1) 84 19 (((st (st σ 84 0 0) 98 ((st σ 84 0 0) 84 19).toNatClampNeg x1) 84 19) + 1))))
abbrev rm6_feed : Room := { frames := 1, cells := 0, slots := 0, locals := 21 }
def f6_sign (N : Nat) (σ : Hp) : Option (Int32 × Hp) :=
  if (σ 84 23) = 0 then if (σ 84 19) ≤ (σ 84 20) then some ((-1), σ) else gd (vib (σ 84 20) 80) (some (σ 98 (σ 84 20).toNatClampNeg, σ)) else some ((-1), σ)
abbrev rm6_sign : Room := { frames := 0, cells := 0, slots := 0, locals := 0 }
def f6_number_B4 (N : Nat) (K4 : Int32 → Int32 → Hp → Option (Int32 × Hp)) (r4 : Int32 → Int32 → Hp → Option (Int32 × Hp)) (x1 : Int32) (x2 : Int32) (σ : Hp) : Option (Int32 × Hp) :=
  if (3 : Int32) ≤ x2 then K4 x1 x2 σ else bd (f6_sign N σ) (fun r10 σ10 => bd (f6_in N r10 48 57 σ10) (fun r17 σ17 => if r17 = 0 then K4 x1 x2 σ17 else bd (f6_sign N σ17) (fun r28 σ28 => r4 (((10 * x1) + r28) - 48) (x2 + 1) (st σ28 84 20 ((σ28 84 20) + 1)))))
def f6_number_L4 (N : Nat) (K4 : Int32 → Int32 → Hp → Option (Int32 × Hp)) (n : Nat) : Int32 → Int32 → Hp → Option (Int32 × Hp) :=
  it (fun _ _ _ => none) (f6_number_B4 N K4) n
def f6_number_J66 (N : Nat) (x1 : Int32) (y0 : Int32) (y1 : Int32) (σ : Hp) : Option (Int32 × Hp) :=
  gd (okB (y1 ||| y0)) (some (x1, (st σ 84 23 (y1 ||| y0))))
def f6_number (N : Nat) (σ : Hp) : Option (Int32 × Hp) :=
  f6_number_L4 N (fun x1_4 x2_4 σL4 => if x2_4 = 0 then f6_number_J66 N x1_4 1 (σL4 84 23) σL4 else f6_number_J66 N x1_4 0 (σL4 84 23) σL4) N 0 0 σ
abbrev rm6_number : Room := { frames := 1, cells := 0, slots := 0, locals := 22 }
def f6_command_J160 (N : Nat) (x1 : Int32) (x2 : Int32) (K87 : Hp → Option (Int32 × Hp)) (r87 : Int32 → Hp → Option (Int32 × Hp)) (x3 : Int32) (σ : Hp) : Option (Int32 × Hp) :=
  r87 (x3 + 1) σ
def f6_command_J150 (N : Nat) (x1 : Int32) (x2 : Int32) (K87 : Hp → Option (Int32 × Hp)) (r87 : Int32 → Hp → Option (Int32 × Hp)) (x3 : Int32) (σ : Hp) : Option (Int32 × Hp) :=
  bd (f6_number N σ) (fun r156 σ156 => gd (vib x3 6) (f6_command_J160 N x1 x2 K87 r87 x3 (st σ156 99 x3.toNatClampNeg r156)))
def f6_command_J122 (N : Nat) (x1 : Int32) (x2 : Int32) (K87 : Hp → Option (Int32 × Hp)) (r87 : Int32 → Hp → Option (Int32 × Hp)) (x3 : Int32) (y0 : Int32) (y1 : Int32) (σ : Hp) : Option (Int32 × Hp) :=
  gd (okB (y1 ||| y0)) (if ((st σ 84 23 (y1 ||| y0)) 84 23) = 0 then if x3 ≤ 0 then f6_command_J150 N x1 x2 K87 r87 x3 (st σ 84 23 (y1 ||| y0)) else f6_command_J150 N x1 x2 K87 r87 x3 (st (st σ 84 23 (y1 ||| y0)) 84 20 (((st σ 84 23 (y1 ||| y0)) 84 20) + 1)) else f6_command_J160 N x1 x2 K87 r87 x3 (st σ 84 23 (y1 ||| y0)))
def f6_command_J121 (N : Nat) (x1 : Int32) (x2 : Int32) (K87 : Hp → Option (Int32 × Hp)) (r87 : Int32 → Hp → Option (Int32 × Hp)) (x3 : Int32) (y0 : Int32) (σ : Hp) : Option (Int32 × Hp) :=
  f6_command_J122 N x1 x2 K87 r87 x3 0 y0 σ
def f6_command_B87 (N : Nat) (x1 : Int32) (x2 : Int32) (K87 : Hp → Option (Int32 × Hp)) (r87 : Int32 → Hp → Option (Int32 × Hp)) (x3 : Int32) (σ : Hp) : Option (Int32 × Hp) :=
  if x2 ≤ x3 then K87 σ else if (σ 84 23) = 0 then if x3 ≤ 0 then f6_command_J121 N x1 x2 K87 r87 x3 (σ 84 23) σ else bd (f6_sign N σ) (fun r109 σ109 => if r109 = (44 : Int32) then f6_command_J121 N x1 x2 K87 r87 x3 (σ 84 23) σ109 else f6_command_J122 N x1 x2 K87 r87 x3 1 (σ 84 23) σ109) else K87 σ
def f6_command_L87 (N : Nat) (x1 : Int32) (x2 : Int32) (K87 : Hp → Option (Int32 × Hp)) (n : Nat) : Int32 → Hp → Option (Int32 × Hp) :=
  it (fun _ _ => none) (f6_command_B87 N x1 x2 K87) n
def f6_command_J62 (N : Nat) (x1 : Int32) (x2 : Int32) (y0 : Int32) (y1 : Int32) (σ : Hp) : Option (Int32 × Hp) :=
  gd (okB (y1 ||| y0)) (if ((st σ 84 23 (y1 ||| y0)) 84 23) = 0 then f6_command_L87 N x1 x2 (fun σL87 => some (x1, σL87)) N 0 (st (st σ 84 23 (y1 ||| y0)) 84 20 (((st σ 84 23 (y1 ||| y0)) 84 20) + 1)) else some ((-1), (st σ 84 23 (y1 ||| y0))))
def f6_command_J47 (N : Nat) (x1 : Int32) (y0 : Int32) (σ : Hp) : Option (Int32 × Hp) :=
  if y0 = 0 then f6_command_J62 N x1 y0 1 (σ 84 23) σ else f6_command_J62 N x1 y0 0 (σ 84 23) σ
def f6_command (N : Nat) (σ : Hp) : Option (Int32 × Hp) :=
  bd (f6_sign N σ) (fun r1 σ1 => if r1 = (115 : Int32) then f6_command_J47 N r1 5 σ1 else if r1 = (97 : Int32) then f6_command_J47 N r1 6 σ1 else if r1 = (112 : Int32) then f6_command_J47 N r1 3 σ1 else if r1 = (108 : Int32) then f6_command_J47 N r1 2 σ1 else f6_command_J47 N r1 0 σ1)
abbrev rm6_command : Room := { frames := 2, cells := 0, slots := 0, locals := 44 }
def f6_does_J140 (N : Nat) (x1 : Int32) (y0 : Int32) (y1 : Int32) (σ : Hp) : Option (Int32 × Hp) :=
  bd (f6_laysLate N y1 y0 σ) (fun r140 σ140 => some (r140, σ140))
def f6_does (N : Nat) (x1 : Int32) (σ : Hp) : Option (Int32 × Hp) :=
  if x1 = (115 : Int32) then gd (vib 0 6) (gd (vib 1 6) (gd (vib 2 6) (gd (vib 3 6) (gd (vib 4 6) (bd (f6_laysStory N (σ 99 (0 : Int32).toNatClampNeg) (σ 99 (1 : Int32).toNatClampNeg) (σ 99 (2 : Int32).toNatClampNeg) (σ 99 (3 : Int32).toNatClampNeg) (σ 99 (4 : Int32).toNatClampNeg) σ) (fun r37 σ37 => some (r37, σ37))))))) else if x1 = (97 : Int32) then gd (vib 0 6) (gd (vib 1 6) (gd (vib 2 6) (gd (vib 3 6) (gd (vib 4 6) (gd (vib 5 6) (bd (f6_laysAd N (σ 99 (0 : Int32).toNatClampNeg) (σ 99 (1 : Int32).toNatClampNeg) (σ 99 (2 : Int32).toNatClampNeg) (σ 99 (3 : Int32).toNatClampNeg) (σ 99 (4 : Int32).toNatClampNeg) (σ 99 (5 : Int32).toNatClampNeg) σ) (fun r84 σ84 => some (r84, σ84)))))))) else if x1 = (112 : Int32) then gd (vib 0 6) (gd (vib 1 6) (gd (vib 2 6) (bd (f6_laysPhoto N (σ 99 (0 : Int32).toNatClampNeg) (σ 99 (1 : Int32).toNatClampNeg) (σ 99 (2 : Int32).toNatClampNeg) σ) (fun r113 σ113 => some (r113, σ113))))) else gd (vib 0 6) (gd (vib 1 6) (if (σ 99 (1 : Int32).toNatClampNeg) = 0 then f6_does_J140 N x1 0 (σ 99 (0 : Int32).toNatClampNeg) σ else f6_does_J140 N x1 1 (σ 99 (0 : Int32).toNatClampNeg) σ))
abbrev rm6_does : Room := { frames := 3, cells := 0, slots := 0, locals := 78 }
def f6_perform_B19 (N : Nat) (K19 : Hp → Option (Int32 × Hp)) (r19 : Hp → Option (Int32 × Hp)) (σ : Hp) : Option (Int32 × Hp) :=
  bd (f6_sign N σ) (fun r20 σ20 => if r20 = (59 : Int32) then bd (f6_command N (st σ20 84 20 ((σ20 84 20) + 1))) (fun r39 σ39 => r19 σ39) else K19 σ20)
def f6_perform_L19 (N : Nat) (K19 : Hp → Option (Int32 × Hp)) (n : Nat) : Hp → Option (Int32 × Hp) :=
  it (fun _ => none) (f6_perform_B19 N K19) n
def f6_perform_J64 (N : Nat) (σ : Hp) : Option (Int32 × Hp) :=
  some ((-100) - ((st σ 84 19 0) 84 20), (st σ 84 19 0))
def f6_perform_J109 (N : Nat) (K84 : Int32 → Hp → Option (Int32 × Hp)) (r84 : Int32 → Hp → Option (Int32 × Hp)) (x2 : Int32) (σ : Hp) : Option (Int32 × Hp) :=
  bd (f6_command N σ) (fun r110 σ110 => bd (f6_does N r110 σ110) (fun r116 σ116 => if (σ116 84 0) = 0 then r84 (x2 + 1) σ116 else bd (f6_copies N 86 166 85 166 0 0 σ116) (fun _ σ137 => bd (f6_fails N 1 (st (st (st σ137 84 21 x2) 84 22 ((st σ137 84 21 x2) 84 0)) 84 19 0)) (fun r160 σ160 => some (r160, σ160)))))
def f6_perform_B84 (N : Nat) (K84 : Int32 → Hp → Option (Int32 × Hp)) (r84 : Int32 → Hp → Option (Int32 × Hp)) (x2 : Int32) (σ : Hp) : Option (Int32 × Hp) :=
  if (σ 84 19) ≤ (σ 84 20) then K84 x2 σ else if x2 ≤ 0 then f6_perform_J109 N K84 r84 x2 σ else f6_perform_J109 N K84 r84 x2 (st σ 84 20 ((σ 84 20) + 1))
def f6_perform_L84 (N : Nat) (K84 : Int32 → Hp → Option (Int32 × Hp)) (n : Nat) : Int32 → Hp → Option (Int32 × Hp) :=
  it (fun _ _ => none) (f6_perform_B84 N K84) n
def f6_perform (N : Nat) (σ : Hp) : Option (Int32 × Hp) :=
  bd (f6_begins N σ) (fun _ σ1 => bd (f6_command N (st (st σ1 84 20 0) 84 23 0)) (fun r15 σ15 => f6_perform_L19 N (fun σL19 => if (σL19 84 23) = 0 then if (σL19 84 19) ≤ (σL19 84 20) then f6_perform_L84 N (fun x2_84 σL84 => bd (f6_ends N x2_84 (st σL84 84 19 0)) (fun r177 σ177 => some (r177, σ177))) N 0 (st σL19 84 20 0) else f6_perform_J64 N σL19 else f6_perform_J64 N σL19) N σ15))
abbrev rm6_perform : Room := { frames := 4, cells := 0, slots := 0, locals := 99 }
def f6_report_J21 (N : Nat) (x1 : Int32) (x2 : Int32) (σ : Hp) : Option (Int32 × Hp) :=
  bd (f6_fails N 1 σ) (fun r23 σ23 => some (r23, σ23))
def f6_report (N : Nat) (x1 : Int32) (x2 : Int32) (σ : Hp) : Option (Int32 × Hp) :=
  if ((st σ 84 0 0) 84 21) < 0 then f6_report_J21 N x1 x2 (st σ 84 0 0) else bd (f6_in N x1 0 1 (st σ 84 0 0)) (fun r15 σ15 => if r15 = 0 then f6_report_J21 N x1 x2 σ15 else bd (f6_in N x2 0 1 σ15) (fun r30 σ30 => if r30 = 0 then bd (f6_fails N 2 σ30) (fun r38 σ38 => some (r38, σ38)) else if x2 = 0 then some (1 + x1, σ30) else if x1 = 0 then some (σ30 84 21, σ30) else some (σ30 84 22, σ30)))
abbrev rm6_report : Room := { frames := 1, cells := 0, slots := 0, locals := 22 }
def f6_undo (N : Nat) (σ : Hp) : Option (Int32 × Hp) :=
  if ((st σ 84 0 0) 84 5) = 0 then bd (f6_fails N 1 (st σ 84 0 0)) (fun r14 σ14 => some (r14, σ14)) else bd (f6_copies N 88 1328 85 166 (166 * ((st (st σ 84 0 0) 84 5 (((st σ 84 0 0) 84 5) - 1)) 84 5)) 0 (st (st σ 84 0 0) 84 5 (((st σ 84 0 0) 84 5) - 1))) (fun _ σ45 => some (σ45 84 5, σ45))
abbrev rm6_undo : Room := { frames := 1, cells := 0, slots := 0, locals := 24 }
def f6_save (N : Nat) (σ : Hp) : Option (Int32 × Hp) :=
  bd (f6_copies N 85 166 87 166 0 0 (st σ 84 0 0)) (fun _ σ15 => bd (f6_many N 1 (st σ15 84 6 1)) (fun r25 σ25 => some (r25, σ25)))
abbrev rm6_save : Room := { frames := 2, cells := 0, slots := 0, locals := 45 }
def f6_restore (N : Nat) (σ : Hp) : Option (Int32 × Hp) :=
  if ((st σ 84 0 0) 84 6) = 0 then bd (f6_fails N 1 (st σ 84 0 0)) (fun r14 σ14 => some (r14, σ14)) else bd (f6_copies N 87 166 85 166 0 0 (st σ 84 0 0)) (fun _ σ28 => bd (f6_many N 1 (st σ28 84 5 0)) (fun r38 σ38 => some (r38, σ38)))
abbrev rm6_restore : Room := { frames := 2, cells := 0, slots := 0, locals := 45 }
