/-! the law's wrappers -/
theorem nil_all {α : Type} {P : α → Prop} : ∀ w ∈ ([] : List α), P w := fun _ h => absurd h List.not_mem_nil
theorem cons_all {α : Type} {P : α → Prop} {a : α} {l : List α} (h : P a) (t : ∀ w ∈ l, P w) : ∀ w ∈ a :: l, P w := List.forall_mem_cons.mpr ⟨h, t⟩
theorem lcL_13 : Cond.classLink RL 13 (exN 1) ∈ lw_all := mem_all 357 (by decide +kernel) (by decide +kernel)
theorem lcL_15 : Cond.classLink RL 15 (exN 2) ∈ lw_all := mem_all 358 (by decide +kernel) (by decide +kernel)
theorem lcL_17 : Cond.classLink RL 17 (exN 3) ∈ lw_all := mem_all 359 (by decide +kernel) (by decide +kernel)
theorem lcL_51 : Cond.classLink RL 51 (exN 4) ∈ lw_all := mem_all 751 (by decide +kernel) (by decide +kernel)
theorem lcL_94 : Cond.classLink RL 94 (exN 5) ∈ lw_all := mem_all 932 (by decide +kernel) (by decide +kernel)
def fL_addAdvertisement (N : Nat) (x1 : Int32) (x2 : Int32) (x3 : Int32) (x4 : Int32) (x5 : Int32) (x6 : Int32) (σ : Hp) : Option (Int32 × Hp) :=
  bh (f5_addAdvertisement N x1 x2 x3 x4 x5 x6 σ) (fun r13 σ13 => some (0, (st σ13 100 0 r13))) (fun x13 σ13 => if x13 = 1 then some (1, σ13) else if x13 = 2 then some (2, σ13) else if x13 = 3 then some (3, σ13) else none)
abbrev rmL_addAdvertisement : Room := { frames := 8, cells := 1, slots := 6, locals := 176 }
theorem miL_addAdvertisement : MiW yL_addAdvertisement cL_addAdvertisement 9 [(0, 18, 21, 13), (0, 18, 25, 15), (0, 18, 29, 17)] 8 := ⟨mem_all 356 (by decide +kernel) (by decide +kernel), mem_all 76 (by decide +kernel) (by decide +kernel), by decide +kernel⟩
def fL_addStory (N : Nat) (x1 : Int32) (x2 : Int32) (x3 : Int32) (x4 : Int32) (x5 : Int32) (σ : Hp) : Option (Int32 × Hp) :=
  bh (f5_addStory N x1 x2 x3 x4 x5 σ) (fun r11 σ11 => some (0, (st σ11 100 0 r11))) (fun x11 σ11 => if x11 = 1 then some (1, σ11) else if x11 = 2 then some (2, σ11) else if x11 = 3 then some (3, σ11) else none)
abbrev rmL_addStory : Room := { frames := 8, cells := 1, slots := 6, locals := 175 }
theorem miL_addStory : MiW yL_addStory cL_addStory 8 [(0, 16, 19, 13), (0, 16, 23, 15), (0, 16, 27, 17)] 7 := ⟨mem_all 609 (by decide +kernel) (by decide +kernel), mem_all 76 (by decide +kernel) (by decide +kernel), by decide +kernel⟩
def fL_setPhoto (N : Nat) (x1 : Int32) (x2 : Int32) (x3 : Int32) (σ : Hp) : Option (Int32 × Hp) :=
  bh (f5_setPhoto N x1 x2 x3 σ) (fun r7 σ7 => some (0, (st σ7 100 0 r7))) (fun x7 σ7 => if x7 = 1 then some (1, σ7) else if x7 = 2 then some (2, σ7) else none)
abbrev rmL_setPhoto : Room := { frames := 8, cells := 1, slots := 6, locals := 173 }
theorem miL_setPhoto : MiW yL_setPhoto cL_setPhoto 6 [(0, 12, 15, 13), (0, 12, 19, 15)] 5 := ⟨mem_all 643 (by decide +kernel) (by decide +kernel), mem_all 76 (by decide +kernel) (by decide +kernel), by decide +kernel⟩
def fL_setLate (N : Nat) (x1 : Int32) (x2 : Int32) (σ : Hp) : Option (Int32 × Hp) :=
  bh (f5_setLate N x1 x2 σ) (fun r5 σ5 => if r5 = 0 then some (0, (st σ5 100 0 0)) else some (0, (st σ5 100 0 1))) (fun x5 σ5 => if x5 = 1 then some (1, σ5) else none)
abbrev rmL_setLate : Room := { frames := 8, cells := 1, slots := 6, locals := 172 }
theorem miL_setLate : MiW yL_setLate cL_setLate 5 [(0, 17, 20, 13)] 4 := ⟨mem_all 657 (by decide +kernel) (by decide +kernel), mem_all 76 (by decide +kernel) (by decide +kernel), by decide +kernel⟩
def fL_change (N : Nat) (x1 : Int32) (x2 : Int32) (x3 : Int32) (σ : Hp) : Option (Int32 × Hp) :=
  bh (f5_change N x1 x2 x3 σ) (fun r7 σ7 => some (0, (st σ7 100 0 r7))) (fun x7 σ7 => if x7 = 1 then some (1, σ7) else if x7 = 2 then some (2, σ7) else none)
abbrev rmL_change : Room := { frames := 8, cells := 2, slots := 12, locals := 173 }
theorem miL_change : MiW yL_change cL_change 6 [(0, 12, 15, 13), (0, 12, 19, 15)] 5 := ⟨mem_all 670 (by decide +kernel) (by decide +kernel), mem_all 76 (by decide +kernel) (by decide +kernel), by decide +kernel⟩
def fL_remove (N : Nat) (x1 : Int32) (x2 : Int32) (σ : Hp) : Option (Int32 × Hp) :=
  bh (f5_remove N x1 x2 σ) (fun r5 σ5 => some (0, (st σ5 100 0 r5))) (fun x5 σ5 => if x5 = 1 then some (1, σ5) else none)
abbrev rmL_remove : Room := { frames := 9, cells := 1, slots := 6, locals := 171 }
theorem miL_remove : MiW yL_remove cL_remove 5 [(0, 10, 13, 13)] 4 := ⟨mem_all 679 (by decide +kernel) (by decide +kernel), mem_all 76 (by decide +kernel) (by decide +kernel), by decide +kernel⟩
def fL_story (N : Nat) (x1 : Int32) (x2 : Int32) (σ : Hp) : Option (Int32 × Hp) :=
  bh (f5_story N x1 x2 σ) (fun r5 σ5 => some (0, (st σ5 100 0 r5))) (fun x5 σ5 => if x5 = 1 then some (1, σ5) else if x5 = 2 then some (2, σ5) else none)
abbrev rmL_story : Room := { frames := 8, cells := 2, slots := 12, locals := 124 }
theorem miL_story : MiW yL_story cL_story 5 [(0, 10, 13, 13), (0, 10, 17, 15)] 4 := ⟨mem_all 707 (by decide +kernel) (by decide +kernel), mem_all 76 (by decide +kernel) (by decide +kernel), by decide +kernel⟩
def fL_advertisement (N : Nat) (x1 : Int32) (x2 : Int32) (σ : Hp) : Option (Int32 × Hp) :=
  bh (f5_advertisement N x1 x2 σ) (fun r5 σ5 => some (0, (st σ5 100 0 r5))) (fun x5 σ5 => if x5 = 1 then some (1, σ5) else if x5 = 2 then some (2, σ5) else none)
abbrev rmL_advertisement : Room := { frames := 8, cells := 2, slots := 12, locals := 124 }
theorem miL_advertisement : MiW yL_advertisement cL_advertisement 5 [(0, 10, 13, 13), (0, 10, 17, 15)] 4 := ⟨mem_all 725 (by decide +kernel) (by decide +kernel), mem_all 76 (by decide +kernel) (by decide +kernel), by decide +kernel⟩
def fL_cell (N : Nat) (x1 : Int32) (x2 : Int32) (x3 : Int32) (σ : Hp) : Option (Int32 × Hp) :=
  bh (f5_cell N x1 x2 x3 σ) (fun r7 σ7 => some (0, (st σ7 100 0 r7))) (fun x7 σ7 => if x7 = 1 then some (1, σ7) else none)
abbrev rmL_cell : Room := { frames := 8, cells := 1, slots := 6, locals := 126 }
theorem miL_cell : MiW yL_cell cL_cell 6 [(0, 12, 15, 13)] 5 := ⟨mem_all 737 (by decide +kernel) (by decide +kernel), mem_all 76 (by decide +kernel) (by decide +kernel), by decide +kernel⟩
def fL_owner (N : Nat) (x1 : Int32) (x2 : Int32) (x3 : Int32) (σ : Hp) : Option (Int32 × Hp) :=
  bh (f5_owner N x1 x2 x3 σ) (fun r7 σ7 => some (0, (st σ7 100 0 r7))) (fun x7 σ7 => if x7 = 1 then some (1, σ7) else if x7 = 4 then some (2, σ7) else none)
abbrev rmL_owner : Room := { frames := 8, cells := 2, slots := 12, locals := 127 }
theorem miL_owner : MiW yL_owner cL_owner 6 [(0, 12, 15, 13), (0, 12, 19, 51)] 5 := ⟨mem_all 750 (by decide +kernel) (by decide +kernel), mem_all 76 (by decide +kernel) (by decide +kernel), by decide +kernel⟩
def fL_part (N : Nat) (x1 : Int32) (x2 : Int32) (x3 : Int32) (σ : Hp) : Option (Int32 × Hp) :=
  bh (f5_part N x1 x2 x3 σ) (fun r7 σ7 => some (0, (st σ7 100 0 r7))) (fun x7 σ7 => if x7 = 1 then some (1, σ7) else if x7 = 2 then some (2, σ7) else none)
abbrev rmL_part : Room := { frames := 8, cells := 2, slots := 12, locals := 125 }
theorem miL_part : MiW yL_part cL_part 6 [(0, 12, 15, 13), (0, 12, 19, 15)] 5 := ⟨mem_all 777 (by decide +kernel) (by decide +kernel), mem_all 76 (by decide +kernel) (by decide +kernel), by decide +kernel⟩
def fL_locate (N : Nat) (x1 : Int32) (x2 : Int32) (σ : Hp) : Option (Int32 × Hp) :=
  bh (f5_locate N x1 x2 σ) (fun r5 σ5 => some (0, (st σ5 100 0 r5))) (fun x5 σ5 => if x5 = 1 then some (1, σ5) else if x5 = 4 then some (2, σ5) else none)
abbrev rmL_locate : Room := { frames := 8, cells := 2, slots := 12, locals := 143 }
theorem miL_locate : MiW yL_locate cL_locate 5 [(0, 10, 13, 13), (0, 10, 17, 51)] 4 := ⟨mem_all 785 (by decide +kernel) (by decide +kernel), mem_all 76 (by decide +kernel) (by decide +kernel), by decide +kernel⟩
def fL_ranked (N : Nat) (x1 : Int32) (σ : Hp) : Option (Int32 × Hp) :=
  bh (f5_ranked N x1 σ) (fun r4 σ4 => some (0, (st σ4 100 0 r4))) (fun x4 σ4 => if x4 = 1 then some (1, σ4) else none)
abbrev rmL_ranked : Room := { frames := 7, cells := 1, slots := 6, locals := 102 }
theorem miL_ranked : MiW yL_ranked cL_ranked 4 [(0, 9, 12, 13)] 3 := ⟨mem_all 803 (by decide +kernel) (by decide +kernel), mem_all 76 (by decide +kernel) (by decide +kernel), by decide +kernel⟩
def fL_fate (N : Nat) (x1 : Int32) (σ : Hp) : Option (Int32 × Hp) :=
  bh (f5_fate N x1 σ) (fun r4 σ4 => some (0, (st σ4 100 0 r4))) (fun x4 σ4 => if x4 = 1 then some (1, σ4) else none)
abbrev rmL_fate : Room := { frames := 8, cells := 1, slots := 6, locals := 125 }
theorem miL_fate : MiW yL_fate cL_fate 4 [(0, 9, 12, 13)] 3 := ⟨mem_all 811 (by decide +kernel) (by decide +kernel), mem_all 76 (by decide +kernel) (by decide +kernel), by decide +kernel⟩
def fL_blamed (N : Nat) (x1 : Int32) (σ : Hp) : Option (Int32 × Hp) :=
  bh (f5_blamed N x1 σ) (fun r4 σ4 => some (0, (st σ4 100 0 r4))) (fun x4 σ4 => if x4 = 1 then some (1, σ4) else if x4 = 4 then some (2, σ4) else none)
abbrev rmL_blamed : Room := { frames := 8, cells := 2, slots := 12, locals := 172 }
theorem miL_blamed : MiW yL_blamed cL_blamed 4 [(0, 9, 12, 13), (0, 9, 15, 51)] 3 := ⟨mem_all 832 (by decide +kernel) (by decide +kernel), mem_all 76 (by decide +kernel) (by decide +kernel), by decide +kernel⟩
def fL_linesIf (N : Nat) (x1 : Int32) (x2 : Int32) (σ : Hp) : Option (Int32 × Hp) :=
  bh (f5_linesIf N x1 x2 σ) (fun r5 σ5 => some (0, (st σ5 100 0 r5))) (fun x5 σ5 => if x5 = 1 then some (1, σ5) else none)
abbrev rmL_linesIf : Room := { frames := 8, cells := 1, slots := 6, locals := 171 }
theorem miL_linesIf : MiW yL_linesIf cL_linesIf 5 [(0, 10, 13, 13)] 4 := ⟨mem_all 840 (by decide +kernel) (by decide +kernel), mem_all 76 (by decide +kernel) (by decide +kernel), by decide +kernel⟩
def fL_trim (N : Nat) (x1 : Int32) (σ : Hp) : Option (Int32 × Hp) :=
  bh (f5_trim N x1 σ) (fun r4 σ4 => some (0, (st σ4 100 0 r4))) (fun x4 σ4 => if x4 = 1 then some (1, σ4) else if x4 = 4 then some (2, σ4) else none)
abbrev rmL_trim : Room := { frames := 8, cells := 2, slots := 12, locals := 123 }
theorem miL_trim : MiW yL_trim cL_trim 4 [(0, 9, 12, 13), (0, 9, 15, 51)] 3 := ⟨mem_all 847 (by decide +kernel) (by decide +kernel), mem_all 76 (by decide +kernel) (by decide +kernel), by decide +kernel⟩
def fL_count (N : Nat) (x1 : Int32) (σ : Hp) : Option (Int32 × Hp) :=
  bh (f5_count N x1 σ) (fun r4 σ4 => some (0, (st σ4 100 0 r4))) (fun x4 σ4 => if x4 = 2 then some (1, σ4) else none)
abbrev rmL_count : Room := { frames := 7, cells := 1, slots := 6, locals := 147 }
theorem miL_count : MiW yL_count cL_count 4 [(0, 9, 12, 15)] 3 := ⟨mem_all 861 (by decide +kernel) (by decide +kernel), mem_all 76 (by decide +kernel) (by decide +kernel), by decide +kernel⟩
def fL_cellCount (N : Nat) (x1 : Int32) (x2 : Int32) (σ : Hp) : Option (Int32 × Hp) :=
  bh (f5_cellCount N x1 x2 σ) (fun r5 σ5 => some (0, (st σ5 100 0 r5))) (fun x5 σ5 => if x5 = 1 then some (1, σ5) else if x5 = 2 then some (2, σ5) else none)
abbrev rmL_cellCount : Room := { frames := 8, cells := 2, slots := 12, locals := 123 }
theorem miL_cellCount : MiW yL_cellCount cL_cellCount 5 [(0, 10, 13, 13), (0, 10, 17, 15)] 4 := ⟨mem_all 894 (by decide +kernel) (by decide +kernel), mem_all 76 (by decide +kernel) (by decide +kernel), by decide +kernel⟩
def fL_layDown (N : Nat) (x1 : Int32) (x2 : Int32) (x3 : Int32) (x4 : Int32) (σ : Hp) : Option (Int32 × Hp) :=
  bh (f5_layDown N x1 x2 x3 x4 σ) (fun r9 σ9 => some (0, (st σ9 100 0 r9))) (fun x9 σ9 => if x9 = 1 then some (1, σ9) else if x9 = 5 then some (2, σ9) else none)
abbrev rmL_layDown : Room := { frames := 9, cells := 3, slots := 18, locals := 149 }
theorem miL_layDown : MiW yL_layDown cL_layDown 7 [(0, 14, 17, 13), (0, 14, 21, 94)] 6 := ⟨mem_all 931 (by decide +kernel) (by decide +kernel), mem_all 76 (by decide +kernel) (by decide +kernel), by decide +kernel⟩
def fL_takeUp (N : Nat) (x1 : Int32) (x2 : Int32) (σ : Hp) : Option (Int32 × Hp) :=
  bh (f5_takeUp N x1 x2 σ) (fun r5 σ5 => some (0, (st σ5 100 0 r5))) (fun x5 σ5 => if x5 = 1 then some (1, σ5) else if x5 = 4 then some (2, σ5) else if x5 = 3 then some (3, σ5) else none)
abbrev rmL_takeUp : Room := { frames := 8, cells := 2, slots := 12, locals := 173 }
theorem miL_takeUp : MiW yL_takeUp cL_takeUp 5 [(0, 10, 13, 13), (0, 10, 17, 51), (0, 10, 21, 17)] 4 := ⟨mem_all 986 (by decide +kernel) (by decide +kernel), mem_all 76 (by decide +kernel) (by decide +kernel), by decide +kernel⟩
def fL_feed (N : Nat) (x1 : Int32) (σ : Hp) : Option (Int32 × Hp) :=
  bh (f5_feed N x1 σ) (fun r4 σ4 => some (0, (st σ4 100 0 r4))) (fun x4 σ4 => if x4 = 3 then some (1, σ4) else none)
abbrev rmL_feed : Room := { frames := 7, cells := 1, slots := 6, locals := 102 }
theorem miL_feed : MiW yL_feed cL_feed 4 [(0, 9, 12, 17)] 3 := ⟨mem_all 1015 (by decide +kernel) (by decide +kernel), mem_all 76 (by decide +kernel) (by decide +kernel), by decide +kernel⟩
def fL_perform (N : Nat) (σ : Hp) : Option (Int32 × Hp) :=
  bh (f5_perform N σ) (fun r3 σ3 => some (0, (st σ3 100 0 r3))) (fun x3 σ3 => if x3 = 5 then some (1, σ3) else none)
abbrev rmL_perform : Room := { frames := 7, cells := 1, slots := 6, locals := 172 }
theorem miL_perform : MiW yL_perform cL_perform 3 [(0, 8, 11, 94)] 2 := ⟨mem_all 1030 (by decide +kernel) (by decide +kernel), mem_all 76 (by decide +kernel) (by decide +kernel), by decide +kernel⟩
def fL_report (N : Nat) (x1 : Int32) (x2 : Int32) (σ : Hp) : Option (Int32 × Hp) :=
  bh (f5_report N x1 x2 σ) (fun r5 σ5 => some (0, (st σ5 100 0 r5))) (fun x5 σ5 => if x5 = 4 then some (1, σ5) else if x5 = 2 then some (2, σ5) else none)
abbrev rmL_report : Room := { frames := 7, cells := 1, slots := 6, locals := 103 }
theorem miL_report : MiW yL_report cL_report 5 [(0, 10, 13, 51), (0, 10, 17, 15)] 4 := ⟨mem_all 1099 (by decide +kernel) (by decide +kernel), mem_all 76 (by decide +kernel) (by decide +kernel), by decide +kernel⟩
def fL_undo (N : Nat) (σ : Hp) : Option (Int32 × Hp) :=
  bh (f5_undo N σ) (fun r3 σ3 => some (0, (st σ3 100 0 r3))) (fun x3 σ3 => if x3 = 3 then some (1, σ3) else none)
abbrev rmL_undo : Room := { frames := 7, cells := 1, slots := 6, locals := 170 }
theorem miL_undo : MiW yL_undo cL_undo 3 [(0, 8, 11, 17)] 2 := ⟨mem_all 1106 (by decide +kernel) (by decide +kernel), mem_all 76 (by decide +kernel) (by decide +kernel), by decide +kernel⟩
def fL_restore (N : Nat) (σ : Hp) : Option (Int32 × Hp) :=
  bh (f5_restore N σ) (fun r3 σ3 => some (0, (st σ3 100 0 r3))) (fun x3 σ3 => if x3 = 3 then some (1, σ3) else none)
abbrev rmL_restore : Room := { frames := 7, cells := 1, slots := 6, locals := 169 }
theorem miL_restore : MiW yL_restore cL_restore 3 [(0, 8, 11, 17)] 2 := ⟨mem_all 1121 (by decide +kernel) (by decide +kernel), mem_all 76 (by decide +kernel) (by decide +kernel), by decide +kernel⟩
set_option maxHeartbeats 4000000 in
set_option maxRecDepth 100000 in
theorem conL_addAdvertisement (N : Nat) (x1 : Int32) (x2 : Int32) (x3 : Int32) (x4 : Int32) (x5 : Int32) (x6 : Int32) : CoWI yL_addAdvertisement cL_addAdvertisement 9 [(0, 18, 21, 13), (0, 18, 25, 15), (0, 18, 29, 17)] rmL_addAdvertisement (fun E => [.ref (ea E 0), .int x1, .int x2, .int x3, .int x4, .int x5, .int x6, .ref (ea E 100)]) (fL_addAdvertisement N x1 x2 x3 x4 x5 x6) := by
  refine coWI_of (L := fun E => [(0, .ref (ea E 0)), (1, .int x1), (2, .int x2), (3, .int x3), (4, .int x4), (5, .int x5), (6, .int x6), (7, .ref (ea E 100))]) (by decide) (fun _ => Nat.le_of_ble_eq_true rfl) (fun _ => rfl) ?_
  intro l E σ p e s m args below meth c C hr hlocks hT htab
  unfold fL_addAdvertisement
  refine j_aload 7 C dL_addAdvertisement_0 rfl ?_
  refine j_iconst (v := 0) 0 C dL_addAdvertisement_2 (by decide) ?_
  refine j_aload_n 0 C dL_addAdvertisement_3 rfl rfl ?_
  refine j_iload_n 1 C dL_addAdvertisement_4 rfl rfl ?_
  refine j_iload_n 2 C dL_addAdvertisement_5 rfl rfl ?_
  refine j_iload_n 3 C dL_addAdvertisement_6 rfl rfl ?_
  refine j_iload 4 C dL_addAdvertisement_7 rfl ?_
  refine j_iload 5 C dL_addAdvertisement_9 rfl ?_
  refine j_iload 6 C dL_addAdvertisement_11 rfl ?_
  refine j_callHVI [.int x1, .int x2, .int x3, .int x4, .int x5, .int x6] (con5_addAdvertisement N x1 x2 x3 x4 x5 x6) C hT mi5_addAdvertisement mv5_addAdvertisement lkL_7 (by decide) (ct_0 E _) rfl rfl rfl ⟨Nat.le_of_ble_eq_true rfl, Nat.le_of_ble_eq_true rfl, Nat.le_of_ble_eq_true rfl, Nat.le_of_ble_eq_true rfl, Nat.le_of_ble_eq_true rfl⟩ dL_addAdvertisement_13 (fun x13 σ13 => ?_) (fun r13 σ13 => ?_)
  · refine jx_ite (fun hx => ?_) (fun hx => ?_)
    · subst hx
      refine j_catch C htab [] ⟨0, 18, 21, 13⟩ [⟨0, 18, 25, 15⟩, ⟨0, 18, 29, 17⟩] rfl nil_all (by decide) (by decide) lcL_13 (by decide +kernel) (fun q0 => ?_)
      refine j_astoreR [(8, .ref q0), (0, .ref (ea E 0)), (1, .int x1), (2, .int x2), (3, .int x3), (4, .int x4), (5, .int x5), (6, .int x6), (7, .ref (ea E 100))] C dL_addAdvertisement_21 (by decide) rfl ?_
      refine j_iconst (v := 1) 1 C dL_addAdvertisement_23 (by decide) ?_
      exact j_iret C hr hlocks rfl dL_addAdvertisement_24 (Nat.le_of_ble_eq_true rfl) (Nat.le_of_ble_eq_true rfl)
    refine jx_ite (fun hx => ?_) (fun hx => ?_)
    · subst hx
      refine j_catch C htab [⟨0, 18, 21, 13⟩] ⟨0, 18, 25, 15⟩ [⟨0, 18, 29, 17⟩] rfl (cons_all (pass_of (y := 1) C rfl (by decide) lcL_13 (by decide +kernel)) nil_all) (by decide) (by decide) lcL_15 (by decide +kernel) (fun q1 => ?_)
      refine j_astoreR [(8, .ref q1), (0, .ref (ea E 0)), (1, .int x1), (2, .int x2), (3, .int x3), (4, .int x4), (5, .int x5), (6, .int x6), (7, .ref (ea E 100))] C dL_addAdvertisement_25 (by decide) rfl ?_
      refine j_iconst (v := 2) 2 C dL_addAdvertisement_27 (by decide) ?_
      exact j_iret C hr hlocks rfl dL_addAdvertisement_28 (Nat.le_of_ble_eq_true rfl) (Nat.le_of_ble_eq_true rfl)
    refine jx_ite (fun hx => ?_) (fun hx => ?_)
    · subst hx
      refine j_catch C htab [⟨0, 18, 21, 13⟩, ⟨0, 18, 25, 15⟩] ⟨0, 18, 29, 17⟩ [] rfl (cons_all (pass_of (y := 1) C rfl (by decide) lcL_13 (by decide +kernel)) (cons_all (pass_of (y := 2) C rfl (by decide) lcL_15 (by decide +kernel)) nil_all)) (by decide) (by decide) lcL_17 (by decide +kernel) (fun q2 => ?_)
      refine j_astoreR [(8, .ref q2), (0, .ref (ea E 0)), (1, .int x1), (2, .int x2), (3, .int x3), (4, .int x4), (5, .int x5), (6, .int x6), (7, .ref (ea E 100))] C dL_addAdvertisement_29 (by decide) rfl ?_
      refine j_iconst (v := 3) 3 C dL_addAdvertisement_31 (by decide) ?_
      exact j_iret C hr hlocks rfl dL_addAdvertisement_32 (Nat.le_of_ble_eq_true rfl) (Nat.le_of_ble_eq_true rfl)
    exact jx_none
  · refine j_i2l C dL_addAdvertisement_16 ?_
    refine j_last C dL_addAdvertisement_17 ?_
    refine j_goto 33 C dL_addAdvertisement_18 (by decide) ?_
    refine j_iconst (v := 0) 0 C dL_addAdvertisement_33 (by decide) ?_
    exact j_iret C hr hlocks rfl dL_addAdvertisement_34 (Nat.le_of_ble_eq_true rfl) (Nat.le_of_ble_eq_true rfl)
set_option maxHeartbeats 4000000 in
set_option maxRecDepth 100000 in
theorem conL_addStory (N : Nat) (x1 : Int32) (x2 : Int32) (x3 : Int32) (x4 : Int32) (x5 : Int32) : CoWI yL_addStory cL_addStory 8 [(0, 16, 19, 13), (0, 16, 23, 15), (0, 16, 27, 17)] rmL_addStory (fun E => [.ref (ea E 0), .int x1, .int x2, .int x3, .int x4, .int x5, .ref (ea E 100)]) (fL_addStory N x1 x2 x3 x4 x5) := by
  refine coWI_of (L := fun E => [(0, .ref (ea E 0)), (1, .int x1), (2, .int x2), (3, .int x3), (4, .int x4), (5, .int x5), (6, .ref (ea E 100))]) (by decide) (fun _ => Nat.le_of_ble_eq_true rfl) (fun _ => rfl) ?_
  intro l E σ p e s m args below meth c C hr hlocks hT htab
  unfold fL_addStory
  refine j_aload 6 C dL_addStory_0 rfl ?_
  refine j_iconst (v := 0) 0 C dL_addStory_2 (by decide) ?_
  refine j_aload_n 0 C dL_addStory_3 rfl rfl ?_
  refine j_iload_n 1 C dL_addStory_4 rfl rfl ?_
  refine j_iload_n 2 C dL_addStory_5 rfl rfl ?_
  refine j_iload_n 3 C dL_addStory_6 rfl rfl ?_
  refine j_iload 4 C dL_addStory_7 rfl ?_
  refine j_iload 5 C dL_addStory_9 rfl ?_
  refine j_callHVI [.int x1, .int x2, .int x3, .int x4, .int x5] (con5_addStory N x1 x2 x3 x4 x5) C hT mi5_addStory mv5_addStory lkL_19 (by decide) (ct_0 E _) rfl rfl rfl ⟨Nat.le_of_ble_eq_true rfl, Nat.le_of_ble_eq_true rfl, Nat.le_of_ble_eq_true rfl, Nat.le_of_ble_eq_true rfl, Nat.le_of_ble_eq_true rfl⟩ dL_addStory_11 (fun x11 σ11 => ?_) (fun r11 σ11 => ?_)
  · refine jx_ite (fun hx => ?_) (fun hx => ?_)
    · subst hx
      refine j_catch C htab [] ⟨0, 16, 19, 13⟩ [⟨0, 16, 23, 15⟩, ⟨0, 16, 27, 17⟩] rfl nil_all (by decide) (by decide) lcL_13 (by decide +kernel) (fun q0 => ?_)
      refine j_astoreR [(7, .ref q0), (0, .ref (ea E 0)), (1, .int x1), (2, .int x2), (3, .int x3), (4, .int x4), (5, .int x5), (6, .ref (ea E 100))] C dL_addStory_19 (by decide) rfl ?_
      refine j_iconst (v := 1) 1 C dL_addStory_21 (by decide) ?_
      exact j_iret C hr hlocks rfl dL_addStory_22 (Nat.le_of_ble_eq_true rfl) (Nat.le_of_ble_eq_true rfl)
    refine jx_ite (fun hx => ?_) (fun hx => ?_)
    · subst hx
      refine j_catch C htab [⟨0, 16, 19, 13⟩] ⟨0, 16, 23, 15⟩ [⟨0, 16, 27, 17⟩] rfl (cons_all (pass_of (y := 1) C rfl (by decide) lcL_13 (by decide +kernel)) nil_all) (by decide) (by decide) lcL_15 (by decide +kernel) (fun q1 => ?_)
      refine j_astoreR [(7, .ref q1), (0, .ref (ea E 0)), (1, .int x1), (2, .int x2), (3, .int x3), (4, .int x4), (5, .int x5), (6, .ref (ea E 100))] C dL_addStory_23 (by decide) rfl ?_
      refine j_iconst (v := 2) 2 C dL_addStory_25 (by decide) ?_
      exact j_iret C hr hlocks rfl dL_addStory_26 (Nat.le_of_ble_eq_true rfl) (Nat.le_of_ble_eq_true rfl)
    refine jx_ite (fun hx => ?_) (fun hx => ?_)
    · subst hx
      refine j_catch C htab [⟨0, 16, 19, 13⟩, ⟨0, 16, 23, 15⟩] ⟨0, 16, 27, 17⟩ [] rfl (cons_all (pass_of (y := 1) C rfl (by decide) lcL_13 (by decide +kernel)) (cons_all (pass_of (y := 2) C rfl (by decide) lcL_15 (by decide +kernel)) nil_all)) (by decide) (by decide) lcL_17 (by decide +kernel) (fun q2 => ?_)
      refine j_astoreR [(7, .ref q2), (0, .ref (ea E 0)), (1, .int x1), (2, .int x2), (3, .int x3), (4, .int x4), (5, .int x5), (6, .ref (ea E 100))] C dL_addStory_27 (by decide) rfl ?_
      refine j_iconst (v := 3) 3 C dL_addStory_29 (by decide) ?_
      exact j_iret C hr hlocks rfl dL_addStory_30 (Nat.le_of_ble_eq_true rfl) (Nat.le_of_ble_eq_true rfl)
    exact jx_none
  · refine j_i2l C dL_addStory_14 ?_
    refine j_last C dL_addStory_15 ?_
    refine j_goto 31 C dL_addStory_16 (by decide) ?_
    refine j_iconst (v := 0) 0 C dL_addStory_31 (by decide) ?_
    exact j_iret C hr hlocks rfl dL_addStory_32 (Nat.le_of_ble_eq_true rfl) (Nat.le_of_ble_eq_true rfl)
set_option maxHeartbeats 4000000 in
set_option maxRecDepth 100000 in
theorem conL_setPhoto (N : Nat) (x1 : Int32) (x2 : Int32) (x3 : Int32) : CoWI yL_setPhoto cL_setPhoto 6 [(0, 12, 15, 13), (0, 12, 19, 15)] rmL_setPhoto (fun E => [.ref (ea E 0), .int x1, .int x2, .int x3, .ref (ea E 100)]) (fL_setPhoto N x1 x2 x3) := by
  refine coWI_of (L := fun E => [(0, .ref (ea E 0)), (1, .int x1), (2, .int x2), (3, .int x3), (4, .ref (ea E 100))]) (by decide) (fun _ => Nat.le_of_ble_eq_true rfl) (fun _ => rfl) ?_
  intro l E σ p e s m args below meth c C hr hlocks hT htab
  unfold fL_setPhoto
  refine j_aload 4 C dL_setPhoto_0 rfl ?_
  refine j_iconst (v := 0) 0 C dL_setPhoto_2 (by decide) ?_
  refine j_aload_n 0 C dL_setPhoto_3 rfl rfl ?_
  refine j_iload_n 1 C dL_setPhoto_4 rfl rfl ?_
  refine j_iload_n 2 C dL_setPhoto_5 rfl rfl ?_
  refine j_iload_n 3 C dL_setPhoto_6 rfl rfl ?_
  refine j_callHVI [.int x1, .int x2, .int x3] (con5_setPhoto N x1 x2 x3) C hT mi5_setPhoto mv5_setPhoto lkL_23 (by decide) (ct_0 E _) rfl rfl rfl ⟨Nat.le_of_ble_eq_true rfl, Nat.le_of_ble_eq_true rfl, Nat.le_of_ble_eq_true rfl, Nat.le_of_ble_eq_true rfl, Nat.le_of_ble_eq_true rfl⟩ dL_setPhoto_7 (fun x7 σ7 => ?_) (fun r7 σ7 => ?_)
  · refine jx_ite (fun hx => ?_) (fun hx => ?_)
    · subst hx
      refine j_catch C htab [] ⟨0, 12, 15, 13⟩ [⟨0, 12, 19, 15⟩] rfl nil_all (by decide) (by decide) lcL_13 (by decide +kernel) (fun q0 => ?_)
      refine j_astoreR [(5, .ref q0), (0, .ref (ea E 0)), (1, .int x1), (2, .int x2), (3, .int x3), (4, .ref (ea E 100))] C dL_setPhoto_15 (by decide) rfl ?_
      refine j_iconst (v := 1) 1 C dL_setPhoto_17 (by decide) ?_
      exact j_iret C hr hlocks rfl dL_setPhoto_18 (Nat.le_of_ble_eq_true rfl) (Nat.le_of_ble_eq_true rfl)
    refine jx_ite (fun hx => ?_) (fun hx => ?_)
    · subst hx
      refine j_catch C htab [⟨0, 12, 15, 13⟩] ⟨0, 12, 19, 15⟩ [] rfl (cons_all (pass_of (y := 1) C rfl (by decide) lcL_13 (by decide +kernel)) nil_all) (by decide) (by decide) lcL_15 (by decide +kernel) (fun q1 => ?_)
      refine j_astoreR [(5, .ref q1), (0, .ref (ea E 0)), (1, .int x1), (2, .int x2), (3, .int x3), (4, .ref (ea E 100))] C dL_setPhoto_19 (by decide) rfl ?_
      refine j_iconst (v := 2) 2 C dL_setPhoto_21 (by decide) ?_
      exact j_iret C hr hlocks rfl dL_setPhoto_22 (Nat.le_of_ble_eq_true rfl) (Nat.le_of_ble_eq_true rfl)
    exact jx_none
  · refine j_i2l C dL_setPhoto_10 ?_
    refine j_last C dL_setPhoto_11 ?_
    refine j_goto 23 C dL_setPhoto_12 (by decide) ?_
    refine j_iconst (v := 0) 0 C dL_setPhoto_23 (by decide) ?_
    exact j_iret C hr hlocks rfl dL_setPhoto_24 (Nat.le_of_ble_eq_true rfl) (Nat.le_of_ble_eq_true rfl)
set_option maxHeartbeats 4000000 in
set_option maxRecDepth 100000 in
theorem conL_setLate (N : Nat) (x1 : Int32) (x2 : Int32) : CoWI yL_setLate cL_setLate 5 [(0, 17, 20, 13)] rmL_setLate (fun E => [.ref (ea E 0), .int x1, .int x2, .ref (ea E 100)]) (fL_setLate N x1 x2) := by
  refine coWI_of (L := fun E => [(0, .ref (ea E 0)), (1, .int x1), (2, .int x2), (3, .ref (ea E 100))]) (by decide) (fun _ => Nat.le_of_ble_eq_true rfl) (fun _ => rfl) ?_
  intro l E σ p e s m args below meth c C hr hlocks hT htab
  unfold fL_setLate
  refine j_aload_n 3 C dL_setLate_0 rfl rfl ?_
  refine j_iconst (v := 0) 0 C dL_setLate_1 (by decide) ?_
  refine j_aload_n 0 C dL_setLate_2 rfl rfl ?_
  refine j_iload_n 1 C dL_setLate_3 rfl rfl ?_
  refine j_iload_n 2 C dL_setLate_4 rfl rfl ?_
  refine j_callHVI [.int x1, .int x2] (con5_setLate N x1 x2) C hT mi5_setLate mv5_setLate lkL_27 (by decide) (ct_0 E _) rfl rfl rfl ⟨Nat.le_of_ble_eq_true rfl, Nat.le_of_ble_eq_true rfl, Nat.le_of_ble_eq_true rfl, Nat.le_of_ble_eq_true rfl, Nat.le_of_ble_eq_true rfl⟩ dL_setLate_5 (fun x5 σ5 => ?_) (fun r5 σ5 => ?_)
  · refine jx_ite (fun hx => ?_) (fun hx => ?_)
    · subst hx
      refine j_catch C htab [] ⟨0, 17, 20, 13⟩ [] rfl nil_all (by decide) (by decide) lcL_13 (by decide +kernel) (fun q0 => ?_)
      refine j_astoreR [(4, .ref q0), (0, .ref (ea E 0)), (1, .int x1), (2, .int x2), (3, .ref (ea E 100))] C dL_setLate_20 (by decide) rfl ?_
      refine j_iconst (v := 1) 1 C dL_setLate_22 (by decide) ?_
      exact j_iret C hr hlocks rfl dL_setLate_23 (Nat.le_of_ble_eq_true rfl) (Nat.le_of_ble_eq_true rfl)
    exact jx_none
  · refine j_zeq 15 C dL_setLate_8 (by decide) ?_ ?_
    · refine j_lconst 0 C dL_setLate_15 (by decide) ?_
      refine j_last C dL_setLate_16 ?_
      refine j_goto 24 C dL_setLate_17 (by decide) ?_
      refine j_iconst (v := 0) 0 C dL_setLate_24 (by decide) ?_
      exact j_iret C hr hlocks rfl dL_setLate_25 (Nat.le_of_ble_eq_true rfl) (Nat.le_of_ble_eq_true rfl)
    · refine j_lconst 1 C dL_setLate_11 (by decide) ?_
      refine j_goto 16 C dL_setLate_12 (by decide) ?_
      refine j_last C dL_setLate_16 ?_
      refine j_goto 24 C dL_setLate_17 (by decide) ?_
      refine j_iconst (v := 0) 0 C dL_setLate_24 (by decide) ?_
      exact j_iret C hr hlocks rfl dL_setLate_25 (Nat.le_of_ble_eq_true rfl) (Nat.le_of_ble_eq_true rfl)
set_option maxHeartbeats 4000000 in
set_option maxRecDepth 100000 in
theorem conL_change (N : Nat) (x1 : Int32) (x2 : Int32) (x3 : Int32) : CoWI yL_change cL_change 6 [(0, 12, 15, 13), (0, 12, 19, 15)] rmL_change (fun E => [.ref (ea E 0), .int x1, .int x2, .int x3, .ref (ea E 100)]) (fL_change N x1 x2 x3) := by
  refine coWI_of (L := fun E => [(0, .ref (ea E 0)), (1, .int x1), (2, .int x2), (3, .int x3), (4, .ref (ea E 100))]) (by decide) (fun _ => Nat.le_of_ble_eq_true rfl) (fun _ => rfl) ?_
  intro l E σ p e s m args below meth c C hr hlocks hT htab
  unfold fL_change
  refine j_aload 4 C dL_change_0 rfl ?_
  refine j_iconst (v := 0) 0 C dL_change_2 (by decide) ?_
  refine j_aload_n 0 C dL_change_3 rfl rfl ?_
  refine j_iload_n 1 C dL_change_4 rfl rfl ?_
  refine j_iload_n 2 C dL_change_5 rfl rfl ?_
  refine j_iload_n 3 C dL_change_6 rfl rfl ?_
  refine j_callHVI [.int x1, .int x2, .int x3] (con5_change N x1 x2 x3) C hT mi5_change mv5_change lkL_31 (by decide) (ct_0 E _) rfl rfl rfl ⟨Nat.le_of_ble_eq_true rfl, Nat.le_of_ble_eq_true rfl, Nat.le_of_ble_eq_true rfl, Nat.le_of_ble_eq_true rfl, Nat.le_of_ble_eq_true rfl⟩ dL_change_7 (fun x7 σ7 => ?_) (fun r7 σ7 => ?_)
  · refine jx_ite (fun hx => ?_) (fun hx => ?_)
    · subst hx
      refine j_catch C htab [] ⟨0, 12, 15, 13⟩ [⟨0, 12, 19, 15⟩] rfl nil_all (by decide) (by decide) lcL_13 (by decide +kernel) (fun q0 => ?_)
      refine j_astoreR [(5, .ref q0), (0, .ref (ea E 0)), (1, .int x1), (2, .int x2), (3, .int x3), (4, .ref (ea E 100))] C dL_change_15 (by decide) rfl ?_
      refine j_iconst (v := 1) 1 C dL_change_17 (by decide) ?_
      exact j_iret C hr hlocks rfl dL_change_18 (Nat.le_of_ble_eq_true rfl) (Nat.le_of_ble_eq_true rfl)
    refine jx_ite (fun hx => ?_) (fun hx => ?_)
    · subst hx
      refine j_catch C htab [⟨0, 12, 15, 13⟩] ⟨0, 12, 19, 15⟩ [] rfl (cons_all (pass_of (y := 1) C rfl (by decide) lcL_13 (by decide +kernel)) nil_all) (by decide) (by decide) lcL_15 (by decide +kernel) (fun q1 => ?_)
      refine j_astoreR [(5, .ref q1), (0, .ref (ea E 0)), (1, .int x1), (2, .int x2), (3, .int x3), (4, .ref (ea E 100))] C dL_change_19 (by decide) rfl ?_
      refine j_iconst (v := 2) 2 C dL_change_21 (by decide) ?_
      exact j_iret C hr hlocks rfl dL_change_22 (Nat.le_of_ble_eq_true rfl) (Nat.le_of_ble_eq_true rfl)
    exact jx_none
  · refine j_i2l C dL_change_10 ?_
    refine j_last C dL_change_11 ?_
    refine j_goto 23 C dL_change_12 (by decide) ?_
    refine j_iconst (v := 0) 0 C dL_change_23 (by decide) ?_
    exact j_iret C hr hlocks rfl dL_change_24 (Nat.le_of_ble_eq_true rfl) (Nat.le_of_ble_eq_true rfl)
set_option maxHeartbeats 4000000 in
set_option maxRecDepth 100000 in
theorem conL_remove (N : Nat) (x1 : Int32) (x2 : Int32) : CoWI yL_remove cL_remove 5 [(0, 10, 13, 13)] rmL_remove (fun E => [.ref (ea E 0), .int x1, .int x2, .ref (ea E 100)]) (fL_remove N x1 x2) := by
  refine coWI_of (L := fun E => [(0, .ref (ea E 0)), (1, .int x1), (2, .int x2), (3, .ref (ea E 100))]) (by decide) (fun _ => Nat.le_of_ble_eq_true rfl) (fun _ => rfl) ?_
  intro l E σ p e s m args below meth c C hr hlocks hT htab
  unfold fL_remove
  refine j_aload_n 3 C dL_remove_0 rfl rfl ?_
  refine j_iconst (v := 0) 0 C dL_remove_1 (by decide) ?_
  refine j_aload_n 0 C dL_remove_2 rfl rfl ?_
  refine j_iload_n 1 C dL_remove_3 rfl rfl ?_
  refine j_iload_n 2 C dL_remove_4 rfl rfl ?_
  refine j_callHVI [.int x1, .int x2] (con5_remove N x1 x2) C hT mi5_remove mv5_remove lkL_34 (by decide) (ct_0 E _) rfl rfl rfl ⟨Nat.le_of_ble_eq_true rfl, Nat.le_of_ble_eq_true rfl, Nat.le_of_ble_eq_true rfl, Nat.le_of_ble_eq_true rfl, Nat.le_of_ble_eq_true rfl⟩ dL_remove_5 (fun x5 σ5 => ?_) (fun r5 σ5 => ?_)
  · refine jx_ite (fun hx => ?_) (fun hx => ?_)
    · subst hx
      refine j_catch C htab [] ⟨0, 10, 13, 13⟩ [] rfl nil_all (by decide) (by decide) lcL_13 (by decide +kernel) (fun q0 => ?_)
      refine j_astoreR [(4, .ref q0), (0, .ref (ea E 0)), (1, .int x1), (2, .int x2), (3, .ref (ea E 100))] C dL_remove_13 (by decide) rfl ?_
      refine j_iconst (v := 1) 1 C dL_remove_15 (by decide) ?_
      exact j_iret C hr hlocks rfl dL_remove_16 (Nat.le_of_ble_eq_true rfl) (Nat.le_of_ble_eq_true rfl)
    exact jx_none
  · refine j_i2l C dL_remove_8 ?_
    refine j_last C dL_remove_9 ?_
    refine j_goto 17 C dL_remove_10 (by decide) ?_
    refine j_iconst (v := 0) 0 C dL_remove_17 (by decide) ?_
    exact j_iret C hr hlocks rfl dL_remove_18 (Nat.le_of_ble_eq_true rfl) (Nat.le_of_ble_eq_true rfl)
set_option maxHeartbeats 4000000 in
set_option maxRecDepth 100000 in
theorem conL_story (N : Nat) (x1 : Int32) (x2 : Int32) : CoWI yL_story cL_story 5 [(0, 10, 13, 13), (0, 10, 17, 15)] rmL_story (fun E => [.ref (ea E 0), .int x1, .int x2, .ref (ea E 100)]) (fL_story N x1 x2) := by
  refine coWI_of (L := fun E => [(0, .ref (ea E 0)), (1, .int x1), (2, .int x2), (3, .ref (ea E 100))]) (by decide) (fun _ => Nat.le_of_ble_eq_true rfl) (fun _ => rfl) ?_
  intro l E σ p e s m args below meth c C hr hlocks hT htab
  unfold fL_story
  refine j_aload_n 3 C dL_story_0 rfl rfl ?_
  refine j_iconst (v := 0) 0 C dL_story_1 (by decide) ?_
  refine j_aload_n 0 C dL_story_2 rfl rfl ?_
  refine j_iload_n 1 C dL_story_3 rfl rfl ?_
  refine j_iload_n 2 C dL_story_4 rfl rfl ?_
  refine j_callHVI [.int x1, .int x2] (con5_story N x1 x2) C hT mi5_story mv5_story lkL_38 (by decide) (ct_0 E _) rfl rfl rfl ⟨Nat.le_of_ble_eq_true rfl, Nat.le_of_ble_eq_true rfl, Nat.le_of_ble_eq_true rfl, Nat.le_of_ble_eq_true rfl, Nat.le_of_ble_eq_true rfl⟩ dL_story_5 (fun x5 σ5 => ?_) (fun r5 σ5 => ?_)
  · refine jx_ite (fun hx => ?_) (fun hx => ?_)
    · subst hx
      refine j_catch C htab [] ⟨0, 10, 13, 13⟩ [⟨0, 10, 17, 15⟩] rfl nil_all (by decide) (by decide) lcL_13 (by decide +kernel) (fun q0 => ?_)
      refine j_astoreR [(4, .ref q0), (0, .ref (ea E 0)), (1, .int x1), (2, .int x2), (3, .ref (ea E 100))] C dL_story_13 (by decide) rfl ?_
      refine j_iconst (v := 1) 1 C dL_story_15 (by decide) ?_
      exact j_iret C hr hlocks rfl dL_story_16 (Nat.le_of_ble_eq_true rfl) (Nat.le_of_ble_eq_true rfl)
    refine jx_ite (fun hx => ?_) (fun hx => ?_)
    · subst hx
      refine j_catch C htab [⟨0, 10, 13, 13⟩] ⟨0, 10, 17, 15⟩ [] rfl (cons_all (pass_of (y := 1) C rfl (by decide) lcL_13 (by decide +kernel)) nil_all) (by decide) (by decide) lcL_15 (by decide +kernel) (fun q1 => ?_)
      refine j_astoreR [(4, .ref q1), (0, .ref (ea E 0)), (1, .int x1), (2, .int x2), (3, .ref (ea E 100))] C dL_story_17 (by decide) rfl ?_
      refine j_iconst (v := 2) 2 C dL_story_19 (by decide) ?_
      exact j_iret C hr hlocks rfl dL_story_20 (Nat.le_of_ble_eq_true rfl) (Nat.le_of_ble_eq_true rfl)
    exact jx_none
  · refine j_i2l C dL_story_8 ?_
    refine j_last C dL_story_9 ?_
    refine j_goto 21 C dL_story_10 (by decide) ?_
    refine j_iconst (v := 0) 0 C dL_story_21 (by decide) ?_
    exact j_iret C hr hlocks rfl dL_story_22 (Nat.le_of_ble_eq_true rfl) (Nat.le_of_ble_eq_true rfl)
set_option maxHeartbeats 4000000 in
set_option maxRecDepth 100000 in
theorem conL_advertisement (N : Nat) (x1 : Int32) (x2 : Int32) : CoWI yL_advertisement cL_advertisement 5 [(0, 10, 13, 13), (0, 10, 17, 15)] rmL_advertisement (fun E => [.ref (ea E 0), .int x1, .int x2, .ref (ea E 100)]) (fL_advertisement N x1 x2) := by
  refine coWI_of (L := fun E => [(0, .ref (ea E 0)), (1, .int x1), (2, .int x2), (3, .ref (ea E 100))]) (by decide) (fun _ => Nat.le_of_ble_eq_true rfl) (fun _ => rfl) ?_
  intro l E σ p e s m args below meth c C hr hlocks hT htab
  unfold fL_advertisement
  refine j_aload_n 3 C dL_advertisement_0 rfl rfl ?_
  refine j_iconst (v := 0) 0 C dL_advertisement_1 (by decide) ?_
  refine j_aload_n 0 C dL_advertisement_2 rfl rfl ?_
  refine j_iload_n 1 C dL_advertisement_3 rfl rfl ?_
  refine j_iload_n 2 C dL_advertisement_4 rfl rfl ?_
  refine j_callHVI [.int x1, .int x2] (con5_advertisement N x1 x2) C hT mi5_advertisement mv5_advertisement lkL_42 (by decide) (ct_0 E _) rfl rfl rfl ⟨Nat.le_of_ble_eq_true rfl, Nat.le_of_ble_eq_true rfl, Nat.le_of_ble_eq_true rfl, Nat.le_of_ble_eq_true rfl, Nat.le_of_ble_eq_true rfl⟩ dL_advertisement_5 (fun x5 σ5 => ?_) (fun r5 σ5 => ?_)
  · refine jx_ite (fun hx => ?_) (fun hx => ?_)
    · subst hx
      refine j_catch C htab [] ⟨0, 10, 13, 13⟩ [⟨0, 10, 17, 15⟩] rfl nil_all (by decide) (by decide) lcL_13 (by decide +kernel) (fun q0 => ?_)
      refine j_astoreR [(4, .ref q0), (0, .ref (ea E 0)), (1, .int x1), (2, .int x2), (3, .ref (ea E 100))] C dL_advertisement_13 (by decide) rfl ?_
      refine j_iconst (v := 1) 1 C dL_advertisement_15 (by decide) ?_
      exact j_iret C hr hlocks rfl dL_advertisement_16 (Nat.le_of_ble_eq_true rfl) (Nat.le_of_ble_eq_true rfl)
    refine jx_ite (fun hx => ?_) (fun hx => ?_)
    · subst hx
      refine j_catch C htab [⟨0, 10, 13, 13⟩] ⟨0, 10, 17, 15⟩ [] rfl (cons_all (pass_of (y := 1) C rfl (by decide) lcL_13 (by decide +kernel)) nil_all) (by decide) (by decide) lcL_15 (by decide +kernel) (fun q1 => ?_)
      refine j_astoreR [(4, .ref q1), (0, .ref (ea E 0)), (1, .int x1), (2, .int x2), (3, .ref (ea E 100))] C dL_advertisement_17 (by decide) rfl ?_
      refine j_iconst (v := 2) 2 C dL_advertisement_19 (by decide) ?_
      exact j_iret C hr hlocks rfl dL_advertisement_20 (Nat.le_of_ble_eq_true rfl) (Nat.le_of_ble_eq_true rfl)
    exact jx_none
  · refine j_i2l C dL_advertisement_8 ?_
    refine j_last C dL_advertisement_9 ?_
    refine j_goto 21 C dL_advertisement_10 (by decide) ?_
    refine j_iconst (v := 0) 0 C dL_advertisement_21 (by decide) ?_
    exact j_iret C hr hlocks rfl dL_advertisement_22 (Nat.le_of_ble_eq_true rfl) (Nat.le_of_ble_eq_true rfl)
set_option maxHeartbeats 4000000 in
set_option maxRecDepth 100000 in
theorem conL_cell (N : Nat) (x1 : Int32) (x2 : Int32) (x3 : Int32) : CoWI yL_cell cL_cell 6 [(0, 12, 15, 13)] rmL_cell (fun E => [.ref (ea E 0), .int x1, .int x2, .int x3, .ref (ea E 100)]) (fL_cell N x1 x2 x3) := by
  refine coWI_of (L := fun E => [(0, .ref (ea E 0)), (1, .int x1), (2, .int x2), (3, .int x3), (4, .ref (ea E 100))]) (by decide) (fun _ => Nat.le_of_ble_eq_true rfl) (fun _ => rfl) ?_
  intro l E σ p e s m args below meth c C hr hlocks hT htab
  unfold fL_cell
  refine j_aload 4 C dL_cell_0 rfl ?_
  refine j_iconst (v := 0) 0 C dL_cell_2 (by decide) ?_
  refine j_aload_n 0 C dL_cell_3 rfl rfl ?_
  refine j_iload_n 1 C dL_cell_4 rfl rfl ?_
  refine j_iload_n 2 C dL_cell_5 rfl rfl ?_
  refine j_iload_n 3 C dL_cell_6 rfl rfl ?_
  refine j_callHVI [.int x1, .int x2, .int x3] (con5_cell N x1 x2 x3) C hT mi5_cell mv5_cell lkL_45 (by decide) (ct_0 E _) rfl rfl rfl ⟨Nat.le_of_ble_eq_true rfl, Nat.le_of_ble_eq_true rfl, Nat.le_of_ble_eq_true rfl, Nat.le_of_ble_eq_true rfl, Nat.le_of_ble_eq_true rfl⟩ dL_cell_7 (fun x7 σ7 => ?_) (fun r7 σ7 => ?_)
  · refine jx_ite (fun hx => ?_) (fun hx => ?_)
    · subst hx
      refine j_catch C htab [] ⟨0, 12, 15, 13⟩ [] rfl nil_all (by decide) (by decide) lcL_13 (by decide +kernel) (fun q0 => ?_)
      refine j_astoreR [(5, .ref q0), (0, .ref (ea E 0)), (1, .int x1), (2, .int x2), (3, .int x3), (4, .ref (ea E 100))] C dL_cell_15 (by decide) rfl ?_
      refine j_iconst (v := 1) 1 C dL_cell_17 (by decide) ?_
      exact j_iret C hr hlocks rfl dL_cell_18 (Nat.le_of_ble_eq_true rfl) (Nat.le_of_ble_eq_true rfl)
    exact jx_none
  · refine j_i2l C dL_cell_10 ?_
    refine j_last C dL_cell_11 ?_
    refine j_goto 19 C dL_cell_12 (by decide) ?_
    refine j_iconst (v := 0) 0 C dL_cell_19 (by decide) ?_
    exact j_iret C hr hlocks rfl dL_cell_20 (Nat.le_of_ble_eq_true rfl) (Nat.le_of_ble_eq_true rfl)
set_option maxHeartbeats 4000000 in
set_option maxRecDepth 100000 in
theorem conL_owner (N : Nat) (x1 : Int32) (x2 : Int32) (x3 : Int32) : CoWI yL_owner cL_owner 6 [(0, 12, 15, 13), (0, 12, 19, 51)] rmL_owner (fun E => [.ref (ea E 0), .int x1, .int x2, .int x3, .ref (ea E 100)]) (fL_owner N x1 x2 x3) := by
  refine coWI_of (L := fun E => [(0, .ref (ea E 0)), (1, .int x1), (2, .int x2), (3, .int x3), (4, .ref (ea E 100))]) (by decide) (fun _ => Nat.le_of_ble_eq_true rfl) (fun _ => rfl) ?_
  intro l E σ p e s m args below meth c C hr hlocks hT htab
  unfold fL_owner
  refine j_aload 4 C dL_owner_0 rfl ?_
  refine j_iconst (v := 0) 0 C dL_owner_2 (by decide) ?_
  refine j_aload_n 0 C dL_owner_3 rfl rfl ?_
  refine j_iload_n 1 C dL_owner_4 rfl rfl ?_
  refine j_iload_n 2 C dL_owner_5 rfl rfl ?_
  refine j_iload_n 3 C dL_owner_6 rfl rfl ?_
  refine j_callHVI [.int x1, .int x2, .int x3] (con5_owner N x1 x2 x3) C hT mi5_owner mv5_owner lkL_48 (by decide) (ct_0 E _) rfl rfl rfl ⟨Nat.le_of_ble_eq_true rfl, Nat.le_of_ble_eq_true rfl, Nat.le_of_ble_eq_true rfl, Nat.le_of_ble_eq_true rfl, Nat.le_of_ble_eq_true rfl⟩ dL_owner_7 (fun x7 σ7 => ?_) (fun r7 σ7 => ?_)
  · refine jx_ite (fun hx => ?_) (fun hx => ?_)
    · subst hx
      refine j_catch C htab [] ⟨0, 12, 15, 13⟩ [⟨0, 12, 19, 51⟩] rfl nil_all (by decide) (by decide) lcL_13 (by decide +kernel) (fun q0 => ?_)
      refine j_astoreR [(5, .ref q0), (0, .ref (ea E 0)), (1, .int x1), (2, .int x2), (3, .int x3), (4, .ref (ea E 100))] C dL_owner_15 (by decide) rfl ?_
      refine j_iconst (v := 1) 1 C dL_owner_17 (by decide) ?_
      exact j_iret C hr hlocks rfl dL_owner_18 (Nat.le_of_ble_eq_true rfl) (Nat.le_of_ble_eq_true rfl)
    refine jx_ite (fun hx => ?_) (fun hx => ?_)
    · subst hx
      refine j_catch C htab [⟨0, 12, 15, 13⟩] ⟨0, 12, 19, 51⟩ [] rfl (cons_all (pass_of (y := 1) C rfl (by decide) lcL_13 (by decide +kernel)) nil_all) (by decide) (by decide) lcL_51 (by decide +kernel) (fun q1 => ?_)
      refine j_astoreR [(5, .ref q1), (0, .ref (ea E 0)), (1, .int x1), (2, .int x2), (3, .int x3), (4, .ref (ea E 100))] C dL_owner_19 (by decide) rfl ?_
      refine j_iconst (v := 2) 2 C dL_owner_21 (by decide) ?_
      exact j_iret C hr hlocks rfl dL_owner_22 (Nat.le_of_ble_eq_true rfl) (Nat.le_of_ble_eq_true rfl)
    exact jx_none
  · refine j_i2l C dL_owner_10 ?_
    refine j_last C dL_owner_11 ?_
    refine j_goto 23 C dL_owner_12 (by decide) ?_
    refine j_iconst (v := 0) 0 C dL_owner_23 (by decide) ?_
    exact j_iret C hr hlocks rfl dL_owner_24 (Nat.le_of_ble_eq_true rfl) (Nat.le_of_ble_eq_true rfl)
set_option maxHeartbeats 4000000 in
set_option maxRecDepth 100000 in
theorem conL_part (N : Nat) (x1 : Int32) (x2 : Int32) (x3 : Int32) : CoWI yL_part cL_part 6 [(0, 12, 15, 13), (0, 12, 19, 15)] rmL_part (fun E => [.ref (ea E 0), .int x1, .int x2, .int x3, .ref (ea E 100)]) (fL_part N x1 x2 x3) := by
  refine coWI_of (L := fun E => [(0, .ref (ea E 0)), (1, .int x1), (2, .int x2), (3, .int x3), (4, .ref (ea E 100))]) (by decide) (fun _ => Nat.le_of_ble_eq_true rfl) (fun _ => rfl) ?_
  intro l E σ p e s m args below meth c C hr hlocks hT htab
  unfold fL_part
  refine j_aload 4 C dL_part_0 rfl ?_
  refine j_iconst (v := 0) 0 C dL_part_2 (by decide) ?_
  refine j_aload_n 0 C dL_part_3 rfl rfl ?_
  refine j_iload_n 1 C dL_part_4 rfl rfl ?_
  refine j_iload_n 2 C dL_part_5 rfl rfl ?_
  refine j_iload_n 3 C dL_part_6 rfl rfl ?_
  refine j_callHVI [.int x1, .int x2, .int x3] (con5_part N x1 x2 x3) C hT mi5_part mv5_part lkL_53 (by decide) (ct_0 E _) rfl rfl rfl ⟨Nat.le_of_ble_eq_true rfl, Nat.le_of_ble_eq_true rfl, Nat.le_of_ble_eq_true rfl, Nat.le_of_ble_eq_true rfl, Nat.le_of_ble_eq_true rfl⟩ dL_part_7 (fun x7 σ7 => ?_) (fun r7 σ7 => ?_)
  · refine jx_ite (fun hx => ?_) (fun hx => ?_)
    · subst hx
      refine j_catch C htab [] ⟨0, 12, 15, 13⟩ [⟨0, 12, 19, 15⟩] rfl nil_all (by decide) (by decide) lcL_13 (by decide +kernel) (fun q0 => ?_)
      refine j_astoreR [(5, .ref q0), (0, .ref (ea E 0)), (1, .int x1), (2, .int x2), (3, .int x3), (4, .ref (ea E 100))] C dL_part_15 (by decide) rfl ?_
      refine j_iconst (v := 1) 1 C dL_part_17 (by decide) ?_
      exact j_iret C hr hlocks rfl dL_part_18 (Nat.le_of_ble_eq_true rfl) (Nat.le_of_ble_eq_true rfl)
    refine jx_ite (fun hx => ?_) (fun hx => ?_)
    · subst hx
      refine j_catch C htab [⟨0, 12, 15, 13⟩] ⟨0, 12, 19, 15⟩ [] rfl (cons_all (pass_of (y := 1) C rfl (by decide) lcL_13 (by decide +kernel)) nil_all) (by decide) (by decide) lcL_15 (by decide +kernel) (fun q1 => ?_)
      refine j_astoreR [(5, .ref q1), (0, .ref (ea E 0)), (1, .int x1), (2, .int x2), (3, .int x3), (4, .ref (ea E 100))] C dL_part_19 (by decide) rfl ?_
      refine j_iconst (v := 2) 2 C dL_part_21 (by decide) ?_
      exact j_iret C hr hlocks rfl dL_part_22 (Nat.le_of_ble_eq_true rfl) (Nat.le_of_ble_eq_true rfl)
    exact jx_none
  · refine j_i2l C dL_part_10 ?_
    refine j_last C dL_part_11 ?_
    refine j_goto 23 C dL_part_12 (by decide) ?_
    refine j_iconst (v := 0) 0 C dL_part_23 (by decide) ?_
    exact j_iret C hr hlocks rfl dL_part_24 (Nat.le_of_ble_eq_true rfl) (Nat.le_of_ble_eq_true rfl)
set_option maxHeartbeats 4000000 in
set_option maxRecDepth 100000 in
theorem conL_locate (N : Nat) (x1 : Int32) (x2 : Int32) : CoWI yL_locate cL_locate 5 [(0, 10, 13, 13), (0, 10, 17, 51)] rmL_locate (fun E => [.ref (ea E 0), .int x1, .int x2, .ref (ea E 100)]) (fL_locate N x1 x2) := by
  refine coWI_of (L := fun E => [(0, .ref (ea E 0)), (1, .int x1), (2, .int x2), (3, .ref (ea E 100))]) (by decide) (fun _ => Nat.le_of_ble_eq_true rfl) (fun _ => rfl) ?_
  intro l E σ p e s m args below meth c C hr hlocks hT htab
  unfold fL_locate
  refine j_aload_n 3 C dL_locate_0 rfl rfl ?_
  refine j_iconst (v := 0) 0 C dL_locate_1 (by decide) ?_
  refine j_aload_n 0 C dL_locate_2 rfl rfl ?_
  refine j_iload_n 1 C dL_locate_3 rfl rfl ?_
  refine j_iload_n 2 C dL_locate_4 rfl rfl ?_
  refine j_callHVI [.int x1, .int x2] (con5_locate N x1 x2) C hT mi5_locate mv5_locate lkL_56 (by decide) (ct_0 E _) rfl rfl rfl ⟨Nat.le_of_ble_eq_true rfl, Nat.le_of_ble_eq_true rfl, Nat.le_of_ble_eq_true rfl, Nat.le_of_ble_eq_true rfl, Nat.le_of_ble_eq_true rfl⟩ dL_locate_5 (fun x5 σ5 => ?_) (fun r5 σ5 => ?_)
  · refine jx_ite (fun hx => ?_) (fun hx => ?_)
    · subst hx
      refine j_catch C htab [] ⟨0, 10, 13, 13⟩ [⟨0, 10, 17, 51⟩] rfl nil_all (by decide) (by decide) lcL_13 (by decide +kernel) (fun q0 => ?_)
      refine j_astoreR [(4, .ref q0), (0, .ref (ea E 0)), (1, .int x1), (2, .int x2), (3, .ref (ea E 100))] C dL_locate_13 (by decide) rfl ?_
      refine j_iconst (v := 1) 1 C dL_locate_15 (by decide) ?_
      exact j_iret C hr hlocks rfl dL_locate_16 (Nat.le_of_ble_eq_true rfl) (Nat.le_of_ble_eq_true rfl)
    refine jx_ite (fun hx => ?_) (fun hx => ?_)
    · subst hx
      refine j_catch C htab [⟨0, 10, 13, 13⟩] ⟨0, 10, 17, 51⟩ [] rfl (cons_all (pass_of (y := 1) C rfl (by decide) lcL_13 (by decide +kernel)) nil_all) (by decide) (by decide) lcL_51 (by decide +kernel) (fun q1 => ?_)
      refine j_astoreR [(4, .ref q1), (0, .ref (ea E 0)), (1, .int x1), (2, .int x2), (3, .ref (ea E 100))] C dL_locate_17 (by decide) rfl ?_
      refine j_iconst (v := 2) 2 C dL_locate_19 (by decide) ?_
      exact j_iret C hr hlocks rfl dL_locate_20 (Nat.le_of_ble_eq_true rfl) (Nat.le_of_ble_eq_true rfl)
    exact jx_none
  · refine j_i2l C dL_locate_8 ?_
    refine j_last C dL_locate_9 ?_
    refine j_goto 21 C dL_locate_10 (by decide) ?_
    refine j_iconst (v := 0) 0 C dL_locate_21 (by decide) ?_
    exact j_iret C hr hlocks rfl dL_locate_22 (Nat.le_of_ble_eq_true rfl) (Nat.le_of_ble_eq_true rfl)
set_option maxHeartbeats 4000000 in
set_option maxRecDepth 100000 in
theorem conL_ranked (N : Nat) (x1 : Int32) : CoWI yL_ranked cL_ranked 4 [(0, 9, 12, 13)] rmL_ranked (fun E => [.ref (ea E 0), .int x1, .ref (ea E 100)]) (fL_ranked N x1) := by
  refine coWI_of (L := fun E => [(0, .ref (ea E 0)), (1, .int x1), (2, .ref (ea E 100))]) (by decide) (fun _ => Nat.le_of_ble_eq_true rfl) (fun _ => rfl) ?_
  intro l E σ p e s m args below meth c C hr hlocks hT htab
  unfold fL_ranked
  refine j_aload_n 2 C dL_ranked_0 rfl rfl ?_
  refine j_iconst (v := 0) 0 C dL_ranked_1 (by decide) ?_
  refine j_aload_n 0 C dL_ranked_2 rfl rfl ?_
  refine j_iload_n 1 C dL_ranked_3 rfl rfl ?_
  refine j_callHVI [.int x1] (con5_ranked N x1) C hT mi5_ranked mv5_ranked lkL_59 (by decide) (ct_0 E _) rfl rfl rfl ⟨Nat.le_of_ble_eq_true rfl, Nat.le_of_ble_eq_true rfl, Nat.le_of_ble_eq_true rfl, Nat.le_of_ble_eq_true rfl, Nat.le_of_ble_eq_true rfl⟩ dL_ranked_4 (fun x4 σ4 => ?_) (fun r4 σ4 => ?_)
  · refine jx_ite (fun hx => ?_) (fun hx => ?_)
    · subst hx
      refine j_catch C htab [] ⟨0, 9, 12, 13⟩ [] rfl nil_all (by decide) (by decide) lcL_13 (by decide +kernel) (fun q0 => ?_)
      refine j_astore_n [(3, .ref q0), (0, .ref (ea E 0)), (1, .int x1), (2, .ref (ea E 100))] C dL_ranked_12 rfl (by decide) rfl ?_
      refine j_iconst (v := 1) 1 C dL_ranked_13 (by decide) ?_
      exact j_iret C hr hlocks rfl dL_ranked_14 (Nat.le_of_ble_eq_true rfl) (Nat.le_of_ble_eq_true rfl)
    exact jx_none
  · refine j_i2l C dL_ranked_7 ?_
    refine j_last C dL_ranked_8 ?_
    refine j_goto 15 C dL_ranked_9 (by decide) ?_
    refine j_iconst (v := 0) 0 C dL_ranked_15 (by decide) ?_
    exact j_iret C hr hlocks rfl dL_ranked_16 (Nat.le_of_ble_eq_true rfl) (Nat.le_of_ble_eq_true rfl)
set_option maxHeartbeats 4000000 in
set_option maxRecDepth 100000 in
theorem conL_fate (N : Nat) (x1 : Int32) : CoWI yL_fate cL_fate 4 [(0, 9, 12, 13)] rmL_fate (fun E => [.ref (ea E 0), .int x1, .ref (ea E 100)]) (fL_fate N x1) := by
  refine coWI_of (L := fun E => [(0, .ref (ea E 0)), (1, .int x1), (2, .ref (ea E 100))]) (by decide) (fun _ => Nat.le_of_ble_eq_true rfl) (fun _ => rfl) ?_
  intro l E σ p e s m args below meth c C hr hlocks hT htab
  unfold fL_fate
  refine j_aload_n 2 C dL_fate_0 rfl rfl ?_
  refine j_iconst (v := 0) 0 C dL_fate_1 (by decide) ?_
  refine j_aload_n 0 C dL_fate_2 rfl rfl ?_
  refine j_iload_n 1 C dL_fate_3 rfl rfl ?_
  refine j_callHVI [.int x1] (con5_fate N x1) C hT mi5_fate mv5_fate lkL_63 (by decide) (ct_0 E _) rfl rfl rfl ⟨Nat.le_of_ble_eq_true rfl, Nat.le_of_ble_eq_true rfl, Nat.le_of_ble_eq_true rfl, Nat.le_of_ble_eq_true rfl, Nat.le_of_ble_eq_true rfl⟩ dL_fate_4 (fun x4 σ4 => ?_) (fun r4 σ4 => ?_)
  · refine jx_ite (fun hx => ?_) (fun hx => ?_)
    · subst hx
      refine j_catch C htab [] ⟨0, 9, 12, 13⟩ [] rfl nil_all (by decide) (by decide) lcL_13 (by decide +kernel) (fun q0 => ?_)
      refine j_astore_n [(3, .ref q0), (0, .ref (ea E 0)), (1, .int x1), (2, .ref (ea E 100))] C dL_fate_12 rfl (by decide) rfl ?_
      refine j_iconst (v := 1) 1 C dL_fate_13 (by decide) ?_
      exact j_iret C hr hlocks rfl dL_fate_14 (Nat.le_of_ble_eq_true rfl) (Nat.le_of_ble_eq_true rfl)
    exact jx_none
  · refine j_i2l C dL_fate_7 ?_
    refine j_last C dL_fate_8 ?_
    refine j_goto 15 C dL_fate_9 (by decide) ?_
    refine j_iconst (v := 0) 0 C dL_fate_15 (by decide) ?_
    exact j_iret C hr hlocks rfl dL_fate_16 (Nat.le_of_ble_eq_true rfl) (Nat.le_of_ble_eq_true rfl)
set_option maxHeartbeats 4000000 in
set_option maxRecDepth 100000 in
theorem conL_blamed (N : Nat) (x1 : Int32) : CoWI yL_blamed cL_blamed 4 [(0, 9, 12, 13), (0, 9, 15, 51)] rmL_blamed (fun E => [.ref (ea E 0), .int x1, .ref (ea E 100)]) (fL_blamed N x1) := by
  refine coWI_of (L := fun E => [(0, .ref (ea E 0)), (1, .int x1), (2, .ref (ea E 100))]) (by decide) (fun _ => Nat.le_of_ble_eq_true rfl) (fun _ => rfl) ?_
  intro l E σ p e s m args below meth c C hr hlocks hT htab
  unfold fL_blamed
  refine j_aload_n 2 C dL_blamed_0 rfl rfl ?_
  refine j_iconst (v := 0) 0 C dL_blamed_1 (by decide) ?_
  refine j_aload_n 0 C dL_blamed_2 rfl rfl ?_
  refine j_iload_n 1 C dL_blamed_3 rfl rfl ?_
  refine j_callHVI [.int x1] (con5_blamed N x1) C hT mi5_blamed mv5_blamed lkL_66 (by decide) (ct_0 E _) rfl rfl rfl ⟨Nat.le_of_ble_eq_true rfl, Nat.le_of_ble_eq_true rfl, Nat.le_of_ble_eq_true rfl, Nat.le_of_ble_eq_true rfl, Nat.le_of_ble_eq_true rfl⟩ dL_blamed_4 (fun x4 σ4 => ?_) (fun r4 σ4 => ?_)
  · refine jx_ite (fun hx => ?_) (fun hx => ?_)
    · subst hx
      refine j_catch C htab [] ⟨0, 9, 12, 13⟩ [⟨0, 9, 15, 51⟩] rfl nil_all (by decide) (by decide) lcL_13 (by decide +kernel) (fun q0 => ?_)
      refine j_astore_n [(3, .ref q0), (0, .ref (ea E 0)), (1, .int x1), (2, .ref (ea E 100))] C dL_blamed_12 rfl (by decide) rfl ?_
      refine j_iconst (v := 1) 1 C dL_blamed_13 (by decide) ?_
      exact j_iret C hr hlocks rfl dL_blamed_14 (Nat.le_of_ble_eq_true rfl) (Nat.le_of_ble_eq_true rfl)
    refine jx_ite (fun hx => ?_) (fun hx => ?_)
    · subst hx
      refine j_catch C htab [⟨0, 9, 12, 13⟩] ⟨0, 9, 15, 51⟩ [] rfl (cons_all (pass_of (y := 1) C rfl (by decide) lcL_13 (by decide +kernel)) nil_all) (by decide) (by decide) lcL_51 (by decide +kernel) (fun q1 => ?_)
      refine j_astore_n [(3, .ref q1), (0, .ref (ea E 0)), (1, .int x1), (2, .ref (ea E 100))] C dL_blamed_15 rfl (by decide) rfl ?_
      refine j_iconst (v := 2) 2 C dL_blamed_16 (by decide) ?_
      exact j_iret C hr hlocks rfl dL_blamed_17 (Nat.le_of_ble_eq_true rfl) (Nat.le_of_ble_eq_true rfl)
    exact jx_none
  · refine j_i2l C dL_blamed_7 ?_
    refine j_last C dL_blamed_8 ?_
    refine j_goto 18 C dL_blamed_9 (by decide) ?_
    refine j_iconst (v := 0) 0 C dL_blamed_18 (by decide) ?_
    exact j_iret C hr hlocks rfl dL_blamed_19 (Nat.le_of_ble_eq_true rfl) (Nat.le_of_ble_eq_true rfl)
set_option maxHeartbeats 4000000 in
set_option maxRecDepth 100000 in
theorem conL_linesIf (N : Nat) (x1 : Int32) (x2 : Int32) : CoWI yL_linesIf cL_linesIf 5 [(0, 10, 13, 13)] rmL_linesIf (fun E => [.ref (ea E 0), .int x1, .int x2, .ref (ea E 100)]) (fL_linesIf N x1 x2) := by
  refine coWI_of (L := fun E => [(0, .ref (ea E 0)), (1, .int x1), (2, .int x2), (3, .ref (ea E 100))]) (by decide) (fun _ => Nat.le_of_ble_eq_true rfl) (fun _ => rfl) ?_
  intro l E σ p e s m args below meth c C hr hlocks hT htab
  unfold fL_linesIf
  refine j_aload_n 3 C dL_linesIf_0 rfl rfl ?_
  refine j_iconst (v := 0) 0 C dL_linesIf_1 (by decide) ?_
  refine j_aload_n 0 C dL_linesIf_2 rfl rfl ?_
  refine j_iload_n 1 C dL_linesIf_3 rfl rfl ?_
  refine j_iload_n 2 C dL_linesIf_4 rfl rfl ?_
  refine j_callHVI [.int x1, .int x2] (con5_linesIf N x1 x2) C hT mi5_linesIf mv5_linesIf lkL_69 (by decide) (ct_0 E _) rfl rfl rfl ⟨Nat.le_of_ble_eq_true rfl, Nat.le_of_ble_eq_true rfl, Nat.le_of_ble_eq_true rfl, Nat.le_of_ble_eq_true rfl, Nat.le_of_ble_eq_true rfl⟩ dL_linesIf_5 (fun x5 σ5 => ?_) (fun r5 σ5 => ?_)
  · refine jx_ite (fun hx => ?_) (fun hx => ?_)
    · subst hx
      refine j_catch C htab [] ⟨0, 10, 13, 13⟩ [] rfl nil_all (by decide) (by decide) lcL_13 (by decide +kernel) (fun q0 => ?_)
      refine j_astoreR [(4, .ref q0), (0, .ref (ea E 0)), (1, .int x1), (2, .int x2), (3, .ref (ea E 100))] C dL_linesIf_13 (by decide) rfl ?_
      refine j_iconst (v := 1) 1 C dL_linesIf_15 (by decide) ?_
      exact j_iret C hr hlocks rfl dL_linesIf_16 (Nat.le_of_ble_eq_true rfl) (Nat.le_of_ble_eq_true rfl)
    exact jx_none
  · refine j_i2l C dL_linesIf_8 ?_
    refine j_last C dL_linesIf_9 ?_
    refine j_goto 17 C dL_linesIf_10 (by decide) ?_
    refine j_iconst (v := 0) 0 C dL_linesIf_17 (by decide) ?_
    exact j_iret C hr hlocks rfl dL_linesIf_18 (Nat.le_of_ble_eq_true rfl) (Nat.le_of_ble_eq_true rfl)
set_option maxHeartbeats 4000000 in
set_option maxRecDepth 100000 in
theorem conL_trim (N : Nat) (x1 : Int32) : CoWI yL_trim cL_trim 4 [(0, 9, 12, 13), (0, 9, 15, 51)] rmL_trim (fun E => [.ref (ea E 0), .int x1, .ref (ea E 100)]) (fL_trim N x1) := by
  refine coWI_of (L := fun E => [(0, .ref (ea E 0)), (1, .int x1), (2, .ref (ea E 100))]) (by decide) (fun _ => Nat.le_of_ble_eq_true rfl) (fun _ => rfl) ?_
  intro l E σ p e s m args below meth c C hr hlocks hT htab
  unfold fL_trim
  refine j_aload_n 2 C dL_trim_0 rfl rfl ?_
  refine j_iconst (v := 0) 0 C dL_trim_1 (by decide) ?_
  refine j_aload_n 0 C dL_trim_2 rfl rfl ?_
  refine j_iload_n 1 C dL_trim_3 rfl rfl ?_
  refine j_callHVI [.int x1] (con5_trim N x1) C hT mi5_trim mv5_trim lkL_73 (by decide) (ct_0 E _) rfl rfl rfl ⟨Nat.le_of_ble_eq_true rfl, Nat.le_of_ble_eq_true rfl, Nat.le_of_ble_eq_true rfl, Nat.le_of_ble_eq_true rfl, Nat.le_of_ble_eq_true rfl⟩ dL_trim_4 (fun x4 σ4 => ?_) (fun r4 σ4 => ?_)
  · refine jx_ite (fun hx => ?_) (fun hx => ?_)
    · subst hx
      refine j_catch C htab [] ⟨0, 9, 12, 13⟩ [⟨0, 9, 15, 51⟩] rfl nil_all (by decide) (by decide) lcL_13 (by decide +kernel) (fun q0 => ?_)
      refine j_astore_n [(3, .ref q0), (0, .ref (ea E 0)), (1, .int x1), (2, .ref (ea E 100))] C dL_trim_12 rfl (by decide) rfl ?_
      refine j_iconst (v := 1) 1 C dL_trim_13 (by decide) ?_
      exact j_iret C hr hlocks rfl dL_trim_14 (Nat.le_of_ble_eq_true rfl) (Nat.le_of_ble_eq_true rfl)
    refine jx_ite (fun hx => ?_) (fun hx => ?_)
    · subst hx
      refine j_catch C htab [⟨0, 9, 12, 13⟩] ⟨0, 9, 15, 51⟩ [] rfl (cons_all (pass_of (y := 1) C rfl (by decide) lcL_13 (by decide +kernel)) nil_all) (by decide) (by decide) lcL_51 (by decide +kernel) (fun q1 => ?_)
      refine j_astore_n [(3, .ref q1), (0, .ref (ea E 0)), (1, .int x1), (2, .ref (ea E 100))] C dL_trim_15 rfl (by decide) rfl ?_
      refine j_iconst (v := 2) 2 C dL_trim_16 (by decide) ?_
      exact j_iret C hr hlocks rfl dL_trim_17 (Nat.le_of_ble_eq_true rfl) (Nat.le_of_ble_eq_true rfl)
    exact jx_none
  · refine j_i2l C dL_trim_7 ?_
    refine j_last C dL_trim_8 ?_
    refine j_goto 18 C dL_trim_9 (by decide) ?_
    refine j_iconst (v := 0) 0 C dL_trim_18 (by decide) ?_
    exact j_iret C hr hlocks rfl dL_trim_19 (Nat.le_of_ble_eq_true rfl) (Nat.le_of_ble_eq_true rfl)
set_option maxHeartbeats 4000000 in
set_option maxRecDepth 100000 in
theorem conL_count (N : Nat) (x1 : Int32) : CoWI yL_count cL_count 4 [(0, 9, 12, 15)] rmL_count (fun E => [.ref (ea E 0), .int x1, .ref (ea E 100)]) (fL_count N x1) := by
  refine coWI_of (L := fun E => [(0, .ref (ea E 0)), (1, .int x1), (2, .ref (ea E 100))]) (by decide) (fun _ => Nat.le_of_ble_eq_true rfl) (fun _ => rfl) ?_
  intro l E σ p e s m args below meth c C hr hlocks hT htab
  unfold fL_count
  refine j_aload_n 2 C dL_count_0 rfl rfl ?_
  refine j_iconst (v := 0) 0 C dL_count_1 (by decide) ?_
  refine j_aload_n 0 C dL_count_2 rfl rfl ?_
  refine j_iload_n 1 C dL_count_3 rfl rfl ?_
  refine j_callHVI [.int x1] (con5_count N x1) C hT mi5_count mv5_count lkL_76 (by decide) (ct_0 E _) rfl rfl rfl ⟨Nat.le_of_ble_eq_true rfl, Nat.le_of_ble_eq_true rfl, Nat.le_of_ble_eq_true rfl, Nat.le_of_ble_eq_true rfl, Nat.le_of_ble_eq_true rfl⟩ dL_count_4 (fun x4 σ4 => ?_) (fun r4 σ4 => ?_)
  · refine jx_ite (fun hx => ?_) (fun hx => ?_)
    · subst hx
      refine j_catch C htab [] ⟨0, 9, 12, 15⟩ [] rfl nil_all (by decide) (by decide) lcL_15 (by decide +kernel) (fun q0 => ?_)
      refine j_astore_n [(3, .ref q0), (0, .ref (ea E 0)), (1, .int x1), (2, .ref (ea E 100))] C dL_count_12 rfl (by decide) rfl ?_
      refine j_iconst (v := 1) 1 C dL_count_13 (by decide) ?_
      exact j_iret C hr hlocks rfl dL_count_14 (Nat.le_of_ble_eq_true rfl) (Nat.le_of_ble_eq_true rfl)
    exact jx_none
  · refine j_i2l C dL_count_7 ?_
    refine j_last C dL_count_8 ?_
    refine j_goto 15 C dL_count_9 (by decide) ?_
    refine j_iconst (v := 0) 0 C dL_count_15 (by decide) ?_
    exact j_iret C hr hlocks rfl dL_count_16 (Nat.le_of_ble_eq_true rfl) (Nat.le_of_ble_eq_true rfl)
set_option maxHeartbeats 4000000 in
set_option maxRecDepth 100000 in
theorem conL_cellCount (N : Nat) (x1 : Int32) (x2 : Int32) : CoWI yL_cellCount cL_cellCount 5 [(0, 10, 13, 13), (0, 10, 17, 15)] rmL_cellCount (fun E => [.ref (ea E 0), .int x1, .int x2, .ref (ea E 100)]) (fL_cellCount N x1 x2) := by
  refine coWI_of (L := fun E => [(0, .ref (ea E 0)), (1, .int x1), (2, .int x2), (3, .ref (ea E 100))]) (by decide) (fun _ => Nat.le_of_ble_eq_true rfl) (fun _ => rfl) ?_
  intro l E σ p e s m args below meth c C hr hlocks hT htab
  unfold fL_cellCount
  refine j_aload_n 3 C dL_cellCount_0 rfl rfl ?_
  refine j_iconst (v := 0) 0 C dL_cellCount_1 (by decide) ?_
  refine j_aload_n 0 C dL_cellCount_2 rfl rfl ?_
  refine j_iload_n 1 C dL_cellCount_3 rfl rfl ?_
  refine j_iload_n 2 C dL_cellCount_4 rfl rfl ?_
  refine j_callHVI [.int x1, .int x2] (con5_cellCount N x1 x2) C hT mi5_cellCount mv5_cellCount lkL_79 (by decide) (ct_0 E _) rfl rfl rfl ⟨Nat.le_of_ble_eq_true rfl, Nat.le_of_ble_eq_true rfl, Nat.le_of_ble_eq_true rfl, Nat.le_of_ble_eq_true rfl, Nat.le_of_ble_eq_true rfl⟩ dL_cellCount_5 (fun x5 σ5 => ?_) (fun r5 σ5 => ?_)
  · refine jx_ite (fun hx => ?_) (fun hx => ?_)
    · subst hx
      refine j_catch C htab [] ⟨0, 10, 13, 13⟩ [⟨0, 10, 17, 15⟩] rfl nil_all (by decide) (by decide) lcL_13 (by decide +kernel) (fun q0 => ?_)
      refine j_astoreR [(4, .ref q0), (0, .ref (ea E 0)), (1, .int x1), (2, .int x2), (3, .ref (ea E 100))] C dL_cellCount_13 (by decide) rfl ?_
      refine j_iconst (v := 1) 1 C dL_cellCount_15 (by decide) ?_
      exact j_iret C hr hlocks rfl dL_cellCount_16 (Nat.le_of_ble_eq_true rfl) (Nat.le_of_ble_eq_true rfl)
    refine jx_ite (fun hx => ?_) (fun hx => ?_)
    · subst hx
      refine j_catch C htab [⟨0, 10, 13, 13⟩] ⟨0, 10, 17, 15⟩ [] rfl (cons_all (pass_of (y := 1) C rfl (by decide) lcL_13 (by decide +kernel)) nil_all) (by decide) (by decide) lcL_15 (by decide +kernel) (fun q1 => ?_)
      refine j_astoreR [(4, .ref q1), (0, .ref (ea E 0)), (1, .int x1), (2, .int x2), (3, .ref (ea E 100))] C dL_cellCount_17 (by decide) rfl ?_
      refine j_iconst (v := 2) 2 C dL_cellCount_19 (by decide) ?_
      exact j_iret C hr hlocks rfl dL_cellCount_20 (Nat.le_of_ble_eq_true rfl) (Nat.le_of_ble_eq_true rfl)
    exact jx_none
  · refine j_i2l C dL_cellCount_8 ?_
    refine j_last C dL_cellCount_9 ?_
    refine j_goto 21 C dL_cellCount_10 (by decide) ?_
    refine j_iconst (v := 0) 0 C dL_cellCount_21 (by decide) ?_
    exact j_iret C hr hlocks rfl dL_cellCount_22 (Nat.le_of_ble_eq_true rfl) (Nat.le_of_ble_eq_true rfl)
set_option maxHeartbeats 4000000 in
set_option maxRecDepth 100000 in
theorem conL_layDown (N : Nat) (x1 : Int32) (x2 : Int32) (x3 : Int32) (x4 : Int32) : CoWI yL_layDown cL_layDown 7 [(0, 14, 17, 13), (0, 14, 21, 94)] rmL_layDown (fun E => [.ref (ea E 0), .int x1, .int x2, .int x3, .int x4, .ref (ea E 100)]) (fL_layDown N x1 x2 x3 x4) := by
  refine coWI_of (L := fun E => [(0, .ref (ea E 0)), (1, .int x1), (2, .int x2), (3, .int x3), (4, .int x4), (5, .ref (ea E 100))]) (by decide) (fun _ => Nat.le_of_ble_eq_true rfl) (fun _ => rfl) ?_
  intro l E σ p e s m args below meth c C hr hlocks hT htab
  unfold fL_layDown
  refine j_aload 5 C dL_layDown_0 rfl ?_
  refine j_iconst (v := 0) 0 C dL_layDown_2 (by decide) ?_
  refine j_aload_n 0 C dL_layDown_3 rfl rfl ?_
  refine j_iload_n 1 C dL_layDown_4 rfl rfl ?_
  refine j_iload_n 2 C dL_layDown_5 rfl rfl ?_
  refine j_iload_n 3 C dL_layDown_6 rfl rfl ?_
  refine j_iload 4 C dL_layDown_7 rfl ?_
  refine j_callHVI [.int x1, .int x2, .int x3, .int x4] (con5_layDown N x1 x2 x3 x4) C hT mi5_layDown mv5_layDown lkL_90 (by decide) (ct_0 E _) rfl rfl rfl ⟨Nat.le_of_ble_eq_true rfl, Nat.le_of_ble_eq_true rfl, Nat.le_of_ble_eq_true rfl, Nat.le_of_ble_eq_true rfl, Nat.le_of_ble_eq_true rfl⟩ dL_layDown_9 (fun x9 σ9 => ?_) (fun r9 σ9 => ?_)
  · refine jx_ite (fun hx => ?_) (fun hx => ?_)
    · subst hx
      refine j_catch C htab [] ⟨0, 14, 17, 13⟩ [⟨0, 14, 21, 94⟩] rfl nil_all (by decide) (by decide) lcL_13 (by decide +kernel) (fun q0 => ?_)
      refine j_astoreR [(6, .ref q0), (0, .ref (ea E 0)), (1, .int x1), (2, .int x2), (3, .int x3), (4, .int x4), (5, .ref (ea E 100))] C dL_layDown_17 (by decide) rfl ?_
      refine j_iconst (v := 1) 1 C dL_layDown_19 (by decide) ?_
      exact j_iret C hr hlocks rfl dL_layDown_20 (Nat.le_of_ble_eq_true rfl) (Nat.le_of_ble_eq_true rfl)
    refine jx_ite (fun hx => ?_) (fun hx => ?_)
    · subst hx
      refine j_catch C htab [⟨0, 14, 17, 13⟩] ⟨0, 14, 21, 94⟩ [] rfl (cons_all (pass_of (y := 1) C rfl (by decide) lcL_13 (by decide +kernel)) nil_all) (by decide) (by decide) lcL_94 (by decide +kernel) (fun q1 => ?_)
      refine j_astoreR [(6, .ref q1), (0, .ref (ea E 0)), (1, .int x1), (2, .int x2), (3, .int x3), (4, .int x4), (5, .ref (ea E 100))] C dL_layDown_21 (by decide) rfl ?_
      refine j_iconst (v := 2) 2 C dL_layDown_23 (by decide) ?_
      exact j_iret C hr hlocks rfl dL_layDown_24 (Nat.le_of_ble_eq_true rfl) (Nat.le_of_ble_eq_true rfl)
    exact jx_none
  · refine j_i2l C dL_layDown_12 ?_
    refine j_last C dL_layDown_13 ?_
    refine j_goto 25 C dL_layDown_14 (by decide) ?_
    refine j_iconst (v := 0) 0 C dL_layDown_25 (by decide) ?_
    exact j_iret C hr hlocks rfl dL_layDown_26 (Nat.le_of_ble_eq_true rfl) (Nat.le_of_ble_eq_true rfl)
set_option maxHeartbeats 4000000 in
set_option maxRecDepth 100000 in
theorem conL_takeUp (N : Nat) (x1 : Int32) (x2 : Int32) : CoWI yL_takeUp cL_takeUp 5 [(0, 10, 13, 13), (0, 10, 17, 51), (0, 10, 21, 17)] rmL_takeUp (fun E => [.ref (ea E 0), .int x1, .int x2, .ref (ea E 100)]) (fL_takeUp N x1 x2) := by
  refine coWI_of (L := fun E => [(0, .ref (ea E 0)), (1, .int x1), (2, .int x2), (3, .ref (ea E 100))]) (by decide) (fun _ => Nat.le_of_ble_eq_true rfl) (fun _ => rfl) ?_
  intro l E σ p e s m args below meth c C hr hlocks hT htab
  unfold fL_takeUp
  refine j_aload_n 3 C dL_takeUp_0 rfl rfl ?_
  refine j_iconst (v := 0) 0 C dL_takeUp_1 (by decide) ?_
  refine j_aload_n 0 C dL_takeUp_2 rfl rfl ?_
  refine j_iload_n 1 C dL_takeUp_3 rfl rfl ?_
  refine j_iload_n 2 C dL_takeUp_4 rfl rfl ?_
  refine j_callHVI [.int x1, .int x2] (con5_takeUp N x1 x2) C hT mi5_takeUp mv5_takeUp lkL_96 (by decide) (ct_0 E _) rfl rfl rfl ⟨Nat.le_of_ble_eq_true rfl, Nat.le_of_ble_eq_true rfl, Nat.le_of_ble_eq_true rfl, Nat.le_of_ble_eq_true rfl, Nat.le_of_ble_eq_true rfl⟩ dL_takeUp_5 (fun x5 σ5 => ?_) (fun r5 σ5 => ?_)
  · refine jx_ite (fun hx => ?_) (fun hx => ?_)
    · subst hx
      refine j_catch C htab [] ⟨0, 10, 13, 13⟩ [⟨0, 10, 17, 51⟩, ⟨0, 10, 21, 17⟩] rfl nil_all (by decide) (by decide) lcL_13 (by decide +kernel) (fun q0 => ?_)
      refine j_astoreR [(4, .ref q0), (0, .ref (ea E 0)), (1, .int x1), (2, .int x2), (3, .ref (ea E 100))] C dL_takeUp_13 (by decide) rfl ?_
      refine j_iconst (v := 1) 1 C dL_takeUp_15 (by decide) ?_
      exact j_iret C hr hlocks rfl dL_takeUp_16 (Nat.le_of_ble_eq_true rfl) (Nat.le_of_ble_eq_true rfl)
    refine jx_ite (fun hx => ?_) (fun hx => ?_)
    · subst hx
      refine j_catch C htab [⟨0, 10, 13, 13⟩] ⟨0, 10, 17, 51⟩ [⟨0, 10, 21, 17⟩] rfl (cons_all (pass_of (y := 1) C rfl (by decide) lcL_13 (by decide +kernel)) nil_all) (by decide) (by decide) lcL_51 (by decide +kernel) (fun q1 => ?_)
      refine j_astoreR [(4, .ref q1), (0, .ref (ea E 0)), (1, .int x1), (2, .int x2), (3, .ref (ea E 100))] C dL_takeUp_17 (by decide) rfl ?_
      refine j_iconst (v := 2) 2 C dL_takeUp_19 (by decide) ?_
      exact j_iret C hr hlocks rfl dL_takeUp_20 (Nat.le_of_ble_eq_true rfl) (Nat.le_of_ble_eq_true rfl)
    refine jx_ite (fun hx => ?_) (fun hx => ?_)
    · subst hx
      refine j_catch C htab [⟨0, 10, 13, 13⟩, ⟨0, 10, 17, 51⟩] ⟨0, 10, 21, 17⟩ [] rfl (cons_all (pass_of (y := 1) C rfl (by decide) lcL_13 (by decide +kernel)) (cons_all (pass_of (y := 4) C rfl (by decide) lcL_51 (by decide +kernel)) nil_all)) (by decide) (by decide) lcL_17 (by decide +kernel) (fun q2 => ?_)
      refine j_astoreR [(4, .ref q2), (0, .ref (ea E 0)), (1, .int x1), (2, .int x2), (3, .ref (ea E 100))] C dL_takeUp_21 (by decide) rfl ?_
      refine j_iconst (v := 3) 3 C dL_takeUp_23 (by decide) ?_
      exact j_iret C hr hlocks rfl dL_takeUp_24 (Nat.le_of_ble_eq_true rfl) (Nat.le_of_ble_eq_true rfl)
    exact jx_none
  · refine j_i2l C dL_takeUp_8 ?_
    refine j_last C dL_takeUp_9 ?_
    refine j_goto 25 C dL_takeUp_10 (by decide) ?_
    refine j_iconst (v := 0) 0 C dL_takeUp_25 (by decide) ?_
    exact j_iret C hr hlocks rfl dL_takeUp_26 (Nat.le_of_ble_eq_true rfl) (Nat.le_of_ble_eq_true rfl)
set_option maxHeartbeats 4000000 in
set_option maxRecDepth 100000 in
theorem conL_feed (N : Nat) (x1 : Int32) : CoWI yL_feed cL_feed 4 [(0, 9, 12, 17)] rmL_feed (fun E => [.ref (ea E 0), .int x1, .ref (ea E 100)]) (fL_feed N x1) := by
  refine coWI_of (L := fun E => [(0, .ref (ea E 0)), (1, .int x1), (2, .ref (ea E 100))]) (by decide) (fun _ => Nat.le_of_ble_eq_true rfl) (fun _ => rfl) ?_
  intro l E σ p e s m args below meth c C hr hlocks hT htab
  unfold fL_feed
  refine j_aload_n 2 C dL_feed_0 rfl rfl ?_
  refine j_iconst (v := 0) 0 C dL_feed_1 (by decide) ?_
  refine j_aload_n 0 C dL_feed_2 rfl rfl ?_
  refine j_iload_n 1 C dL_feed_3 rfl rfl ?_
  refine j_callHVI [.int x1] (con5_feed N x1) C hT mi5_feed mv5_feed lkL_99 (by decide) (ct_0 E _) rfl rfl rfl ⟨Nat.le_of_ble_eq_true rfl, Nat.le_of_ble_eq_true rfl, Nat.le_of_ble_eq_true rfl, Nat.le_of_ble_eq_true rfl, Nat.le_of_ble_eq_true rfl⟩ dL_feed_4 (fun x4 σ4 => ?_) (fun r4 σ4 => ?_)
  · refine jx_ite (fun hx => ?_) (fun hx => ?_)
    · subst hx
      refine j_catch C htab [] ⟨0, 9, 12, 17⟩ [] rfl nil_all (by decide) (by decide) lcL_17 (by decide +kernel) (fun q0 => ?_)
      refine j_astore_n [(3, .ref q0), (0, .ref (ea E 0)), (1, .int x1), (2, .ref (ea E 100))] C dL_feed_12 rfl (by decide) rfl ?_
      refine j_iconst (v := 1) 1 C dL_feed_13 (by decide) ?_
      exact j_iret C hr hlocks rfl dL_feed_14 (Nat.le_of_ble_eq_true rfl) (Nat.le_of_ble_eq_true rfl)
    exact jx_none
  · refine j_i2l C dL_feed_7 ?_
    refine j_last C dL_feed_8 ?_
    refine j_goto 15 C dL_feed_9 (by decide) ?_
    refine j_iconst (v := 0) 0 C dL_feed_15 (by decide) ?_
    exact j_iret C hr hlocks rfl dL_feed_16 (Nat.le_of_ble_eq_true rfl) (Nat.le_of_ble_eq_true rfl)
set_option maxHeartbeats 4000000 in
set_option maxRecDepth 100000 in
theorem conL_perform (N : Nat) : CoWI yL_perform cL_perform 3 [(0, 8, 11, 94)] rmL_perform (fun E => [.ref (ea E 0), .ref (ea E 100)]) (fL_perform N) := by
  refine coWI_of (L := fun E => [(0, .ref (ea E 0)), (1, .ref (ea E 100))]) (by decide) (fun _ => Nat.le_of_ble_eq_true rfl) (fun _ => rfl) ?_
  intro l E σ p e s m args below meth c C hr hlocks hT htab
  unfold fL_perform
  refine j_aload_n 1 C dL_perform_0 rfl rfl ?_
  refine j_iconst (v := 0) 0 C dL_perform_1 (by decide) ?_
  refine j_aload_n 0 C dL_perform_2 rfl rfl ?_
  refine j_callHVI [] (con5_perform N) C hT mi5_perform mv5_perform lkL_103 (by decide) (ct_0 E _) rfl rfl rfl ⟨Nat.le_of_ble_eq_true rfl, Nat.le_of_ble_eq_true rfl, Nat.le_of_ble_eq_true rfl, Nat.le_of_ble_eq_true rfl, Nat.le_of_ble_eq_true rfl⟩ dL_perform_3 (fun x3 σ3 => ?_) (fun r3 σ3 => ?_)
  · refine jx_ite (fun hx => ?_) (fun hx => ?_)
    · subst hx
      refine j_catch C htab [] ⟨0, 8, 11, 94⟩ [] rfl nil_all (by decide) (by decide) lcL_94 (by decide +kernel) (fun q0 => ?_)
      refine j_astore_n [(2, .ref q0), (0, .ref (ea E 0)), (1, .ref (ea E 100))] C dL_perform_11 rfl (by decide) rfl ?_
      refine j_iconst (v := 1) 1 C dL_perform_12 (by decide) ?_
      exact j_iret C hr hlocks rfl dL_perform_13 (Nat.le_of_ble_eq_true rfl) (Nat.le_of_ble_eq_true rfl)
    exact jx_none
  · refine j_i2l C dL_perform_6 ?_
    refine j_last C dL_perform_7 ?_
    refine j_goto 14 C dL_perform_8 (by decide) ?_
    refine j_iconst (v := 0) 0 C dL_perform_14 (by decide) ?_
    exact j_iret C hr hlocks rfl dL_perform_15 (Nat.le_of_ble_eq_true rfl) (Nat.le_of_ble_eq_true rfl)
set_option maxHeartbeats 4000000 in
set_option maxRecDepth 100000 in
theorem conL_report (N : Nat) (x1 : Int32) (x2 : Int32) : CoWI yL_report cL_report 5 [(0, 10, 13, 51), (0, 10, 17, 15)] rmL_report (fun E => [.ref (ea E 0), .int x1, .int x2, .ref (ea E 100)]) (fL_report N x1 x2) := by
  refine coWI_of (L := fun E => [(0, .ref (ea E 0)), (1, .int x1), (2, .int x2), (3, .ref (ea E 100))]) (by decide) (fun _ => Nat.le_of_ble_eq_true rfl) (fun _ => rfl) ?_
  intro l E σ p e s m args below meth c C hr hlocks hT htab
  unfold fL_report
  refine j_aload_n 3 C dL_report_0 rfl rfl ?_
  refine j_iconst (v := 0) 0 C dL_report_1 (by decide) ?_
  refine j_aload_n 0 C dL_report_2 rfl rfl ?_
  refine j_iload_n 1 C dL_report_3 rfl rfl ?_
  refine j_iload_n 2 C dL_report_4 rfl rfl ?_
  refine j_callHVI [.int x1, .int x2] (con5_report N x1 x2) C hT mi5_report mv5_report lkL_107 (by decide) (ct_0 E _) rfl rfl rfl ⟨Nat.le_of_ble_eq_true rfl, Nat.le_of_ble_eq_true rfl, Nat.le_of_ble_eq_true rfl, Nat.le_of_ble_eq_true rfl, Nat.le_of_ble_eq_true rfl⟩ dL_report_5 (fun x5 σ5 => ?_) (fun r5 σ5 => ?_)
  · refine jx_ite (fun hx => ?_) (fun hx => ?_)
    · subst hx
      refine j_catch C htab [] ⟨0, 10, 13, 51⟩ [⟨0, 10, 17, 15⟩] rfl nil_all (by decide) (by decide) lcL_51 (by decide +kernel) (fun q0 => ?_)
      refine j_astoreR [(4, .ref q0), (0, .ref (ea E 0)), (1, .int x1), (2, .int x2), (3, .ref (ea E 100))] C dL_report_13 (by decide) rfl ?_
      refine j_iconst (v := 1) 1 C dL_report_15 (by decide) ?_
      exact j_iret C hr hlocks rfl dL_report_16 (Nat.le_of_ble_eq_true rfl) (Nat.le_of_ble_eq_true rfl)
    refine jx_ite (fun hx => ?_) (fun hx => ?_)
    · subst hx
      refine j_catch C htab [⟨0, 10, 13, 51⟩] ⟨0, 10, 17, 15⟩ [] rfl (cons_all (pass_of (y := 4) C rfl (by decide) lcL_51 (by decide +kernel)) nil_all) (by decide) (by decide) lcL_15 (by decide +kernel) (fun q1 => ?_)
      refine j_astoreR [(4, .ref q1), (0, .ref (ea E 0)), (1, .int x1), (2, .int x2), (3, .ref (ea E 100))] C dL_report_17 (by decide) rfl ?_
      refine j_iconst (v := 2) 2 C dL_report_19 (by decide) ?_
      exact j_iret C hr hlocks rfl dL_report_20 (Nat.le_of_ble_eq_true rfl) (Nat.le_of_ble_eq_true rfl)
    exact jx_none
  · refine j_i2l C dL_report_8 ?_
    refine j_last C dL_report_9 ?_
    refine j_goto 21 C dL_report_10 (by decide) ?_
    refine j_iconst (v := 0) 0 C dL_report_21 (by decide) ?_
    exact j_iret C hr hlocks rfl dL_report_22 (Nat.le_of_ble_eq_true rfl) (Nat.le_of_ble_eq_true rfl)
set_option maxHeartbeats 4000000 in
set_option maxRecDepth 100000 in
theorem conL_undo (N : Nat) : CoWI yL_undo cL_undo 3 [(0, 8, 11, 17)] rmL_undo (fun E => [.ref (ea E 0), .ref (ea E 100)]) (fL_undo N) := by
  refine coWI_of (L := fun E => [(0, .ref (ea E 0)), (1, .ref (ea E 100))]) (by decide) (fun _ => Nat.le_of_ble_eq_true rfl) (fun _ => rfl) ?_
  intro l E σ p e s m args below meth c C hr hlocks hT htab
  unfold fL_undo
  refine j_aload_n 1 C dL_undo_0 rfl rfl ?_
  refine j_iconst (v := 0) 0 C dL_undo_1 (by decide) ?_
  refine j_aload_n 0 C dL_undo_2 rfl rfl ?_
  refine j_callHVI [] (con5_undo N) C hT mi5_undo mv5_undo lkL_110 (by decide) (ct_0 E _) rfl rfl rfl ⟨Nat.le_of_ble_eq_true rfl, Nat.le_of_ble_eq_true rfl, Nat.le_of_ble_eq_true rfl, Nat.le_of_ble_eq_true rfl, Nat.le_of_ble_eq_true rfl⟩ dL_undo_3 (fun x3 σ3 => ?_) (fun r3 σ3 => ?_)
  · refine jx_ite (fun hx => ?_) (fun hx => ?_)
    · subst hx
      refine j_catch C htab [] ⟨0, 8, 11, 17⟩ [] rfl nil_all (by decide) (by decide) lcL_17 (by decide +kernel) (fun q0 => ?_)
      refine j_astore_n [(2, .ref q0), (0, .ref (ea E 0)), (1, .ref (ea E 100))] C dL_undo_11 rfl (by decide) rfl ?_
      refine j_iconst (v := 1) 1 C dL_undo_12 (by decide) ?_
      exact j_iret C hr hlocks rfl dL_undo_13 (Nat.le_of_ble_eq_true rfl) (Nat.le_of_ble_eq_true rfl)
    exact jx_none
  · refine j_i2l C dL_undo_6 ?_
    refine j_last C dL_undo_7 ?_
    refine j_goto 14 C dL_undo_8 (by decide) ?_
    refine j_iconst (v := 0) 0 C dL_undo_14 (by decide) ?_
    exact j_iret C hr hlocks rfl dL_undo_15 (Nat.le_of_ble_eq_true rfl) (Nat.le_of_ble_eq_true rfl)
set_option maxHeartbeats 4000000 in
set_option maxRecDepth 100000 in
theorem conL_restore (N : Nat) : CoWI yL_restore cL_restore 3 [(0, 8, 11, 17)] rmL_restore (fun E => [.ref (ea E 0), .ref (ea E 100)]) (fL_restore N) := by
  refine coWI_of (L := fun E => [(0, .ref (ea E 0)), (1, .ref (ea E 100))]) (by decide) (fun _ => Nat.le_of_ble_eq_true rfl) (fun _ => rfl) ?_
  intro l E σ p e s m args below meth c C hr hlocks hT htab
  unfold fL_restore
  refine j_aload_n 1 C dL_restore_0 rfl rfl ?_
  refine j_iconst (v := 0) 0 C dL_restore_1 (by decide) ?_
  refine j_aload_n 0 C dL_restore_2 rfl rfl ?_
  refine j_callHVI [] (con5_restore N) C hT mi5_restore mv5_restore lkL_113 (by decide) (ct_0 E _) rfl rfl rfl ⟨Nat.le_of_ble_eq_true rfl, Nat.le_of_ble_eq_true rfl, Nat.le_of_ble_eq_true rfl, Nat.le_of_ble_eq_true rfl, Nat.le_of_ble_eq_true rfl⟩ dL_restore_3 (fun x3 σ3 => ?_) (fun r3 σ3 => ?_)
  · refine jx_ite (fun hx => ?_) (fun hx => ?_)
    · subst hx
      refine j_catch C htab [] ⟨0, 8, 11, 17⟩ [] rfl nil_all (by decide) (by decide) lcL_17 (by decide +kernel) (fun q0 => ?_)
      refine j_astore_n [(2, .ref q0), (0, .ref (ea E 0)), (1, .ref (ea E 100))] C dL_restore_11 rfl (by decide) rfl ?_
      refine j_iconst (v := 1) 1 C dL_restore_12 (by decide) ?_
      exact j_iret C hr hlocks rfl dL_restore_13 (Nat.le_of_ble_eq_true rfl) (Nat.le_of_ble_eq_true rfl)
    exact jx_none
  · refine j_i2l C dL_restore_6 ?_
    refine j_last C dL_restore_7 ?_
    refine j_goto 14 C dL_restore_8 (by decide) ?_
    refine j_iconst (v := 0) 0 C dL_restore_14 (by decide) ?_
    exact j_iret C hr hlocks rfl dL_restore_15 (Nat.le_of_ble_eq_true rfl) (Nat.le_of_ble_eq_true rfl)
