/-! the law's cases, but the two with floats -/
def fL_case0 {ρ : Type} (N : Nat) (xs : Nat → Int32) (Ls : Nat) (x5 : Int32) (K : Hp → Option ρ) (σ : Hp) : Option ρ :=
  gd (vib (x5 + 1) Ls) (gd (vib (x5 + 2) Ls) (gd (vib (x5 + 3) Ls) (gd (vib (x5 + 4) Ls) (gd (vib (x5 + 5) Ls) (gd (vib (x5 + 6) Ls) (bd (fL_addAdvertisement N (xs (x5 + 1).toNatClampNeg) (xs (x5 + 2).toNatClampNeg) (xs (x5 + 3).toNatClampNeg) (xs (x5 + 4).toNatClampNeg) (xs (x5 + 5).toNatClampNeg) (xs (x5 + 6).toNatClampNeg) σ) (fun r219 σ219 => gd (vib (x5 + 1) Ls) (gd (vib (x5 + 2) Ls) (gd (vib (x5 + 3) Ls) (gd (vib (x5 + 4) Ls) (gd (vib (x5 + 5) Ls) (gd (vib (x5 + 6) Ls) (bd (f6_addAdvertisement N (xs (x5 + 1).toNatClampNeg) (xs (x5 + 2).toNatClampNeg) (xs (x5 + 3).toNatClampNeg) (xs (x5 + 4).toNatClampNeg) (xs (x5 + 5).toNatClampNeg) (xs (x5 + 6).toNatClampNeg) σ219) (fun r262 σ262 => bd (f6_thrown N σ262) (fun r268 σ268 => if r268 = r219 then if r219 = 0 then if (σ268 100 0) = r262 then K σ268 else none else K σ268 else none)))))))))))))))
def fL_case1 {ρ : Type} (N : Nat) (xs : Nat → Int32) (Ls : Nat) (x5 : Int32) (K : Hp → Option ρ) (σ : Hp) : Option ρ :=
  gd (vib (x5 + 1) Ls) (gd (vib (x5 + 2) Ls) (gd (vib (x5 + 3) Ls) (gd (vib (x5 + 4) Ls) (gd (vib (x5 + 5) Ls) (bd (fL_addStory N (xs (x5 + 1).toNatClampNeg) (xs (x5 + 2).toNatClampNeg) (xs (x5 + 3).toNatClampNeg) (xs (x5 + 4).toNatClampNeg) (xs (x5 + 5).toNatClampNeg) σ) (fun r330 σ330 => gd (vib (x5 + 1) Ls) (gd (vib (x5 + 2) Ls) (gd (vib (x5 + 3) Ls) (gd (vib (x5 + 4) Ls) (gd (vib (x5 + 5) Ls) (bd (f6_addStory N (xs (x5 + 1).toNatClampNeg) (xs (x5 + 2).toNatClampNeg) (xs (x5 + 3).toNatClampNeg) (xs (x5 + 4).toNatClampNeg) (xs (x5 + 5).toNatClampNeg) σ330) (fun r366 σ366 => bd (f6_thrown N σ366) (fun r372 σ372 => if r372 = r330 then if r330 = 0 then if (σ372 100 0) = r366 then K σ372 else none else K σ372 else none)))))))))))))
def fL_case2 {ρ : Type} (N : Nat) (xs : Nat → Int32) (Ls : Nat) (x5 : Int32) (K : Hp → Option ρ) (σ : Hp) : Option ρ :=
  gd (vib (x5 + 1) Ls) (gd (vib (x5 + 2) Ls) (gd (vib (x5 + 3) Ls) (bd (fL_setPhoto N (xs (x5 + 1).toNatClampNeg) (xs (x5 + 2).toNatClampNeg) (xs (x5 + 3).toNatClampNeg) σ) (fun r422 σ422 => gd (vib (x5 + 1) Ls) (gd (vib (x5 + 2) Ls) (gd (vib (x5 + 3) Ls) (bd (f6_setPhoto N (xs (x5 + 1).toNatClampNeg) (xs (x5 + 2).toNatClampNeg) (xs (x5 + 3).toNatClampNeg) σ422) (fun r446 σ446 => bd (f6_thrown N σ446) (fun r452 σ452 => if r452 = r422 then if r422 = 0 then if (σ452 100 0) = r446 then K σ452 else none else K σ452 else none)))))))))
def fL_case3 {ρ : Type} (N : Nat) (xs : Nat → Int32) (Ls : Nat) (x5 : Int32) (K : Hp → Option ρ) (σ : Hp) : Option ρ :=
  gd (vib (x5 + 1) Ls) (gd (vib (x5 + 2) Ls) (if (xs (x5 + 2).toNatClampNeg) = 0 then bd (fL_setLate N (xs (x5 + 1).toNatClampNeg) 0 σ) (fun r504 σ504 => gd (vib (x5 + 1) Ls) (gd (vib (x5 + 2) Ls) (if (xs (x5 + 2).toNatClampNeg) = 0 then bd (f6_setLate N (xs (x5 + 1).toNatClampNeg) 0 σ504) (fun r530 σ530 => bd (f6_thrown N σ530) (fun r536 σ536 => if r536 = r504 then if r504 = 0 then if r530 = 0 then if (σ536 100 0) = (0 : Int32) then K σ536 else none else if (σ536 100 0) = (1 : Int32) then K σ536 else none else K σ536 else none)) else bd (f6_setLate N (xs (x5 + 1).toNatClampNeg) 1 σ504) (fun r530 σ530 => bd (f6_thrown N σ530) (fun r536 σ536 => if r536 = r504 then if r504 = 0 then if r530 = 0 then if (σ536 100 0) = (0 : Int32) then K σ536 else none else if (σ536 100 0) = (1 : Int32) then K σ536 else none else K σ536 else none))))) else bd (fL_setLate N (xs (x5 + 1).toNatClampNeg) 1 σ) (fun r504 σ504 => gd (vib (x5 + 1) Ls) (gd (vib (x5 + 2) Ls) (if (xs (x5 + 2).toNatClampNeg) = 0 then bd (f6_setLate N (xs (x5 + 1).toNatClampNeg) 0 σ504) (fun r530 σ530 => bd (f6_thrown N σ530) (fun r536 σ536 => if r536 = r504 then if r504 = 0 then if r530 = 0 then if (σ536 100 0) = (0 : Int32) then K σ536 else none else if (σ536 100 0) = (1 : Int32) then K σ536 else none else K σ536 else none)) else bd (f6_setLate N (xs (x5 + 1).toNatClampNeg) 1 σ504) (fun r530 σ530 => bd (f6_thrown N σ530) (fun r536 σ536 => if r536 = r504 then if r504 = 0 then if r530 = 0 then if (σ536 100 0) = (0 : Int32) then K σ536 else none else if (σ536 100 0) = (1 : Int32) then K σ536 else none else K σ536 else none)))))))
def fL_case4 {ρ : Type} (N : Nat) (xs : Nat → Int32) (Ls : Nat) (x5 : Int32) (K : Hp → Option ρ) (σ : Hp) : Option ρ :=
  gd (vib (x5 + 1) Ls) (gd (vib (x5 + 2) Ls) (gd (vib (x5 + 3) Ls) (bd (fL_change N (xs (x5 + 1).toNatClampNeg) (xs (x5 + 2).toNatClampNeg) (xs (x5 + 3).toNatClampNeg) σ) (fun r593 σ593 => gd (vib (x5 + 1) Ls) (gd (vib (x5 + 2) Ls) (gd (vib (x5 + 3) Ls) (bd (f6_change N (xs (x5 + 1).toNatClampNeg) (xs (x5 + 2).toNatClampNeg) (xs (x5 + 3).toNatClampNeg) σ593) (fun r617 σ617 => bd (f6_thrown N σ617) (fun r623 σ623 => if r623 = r593 then if r593 = 0 then if (σ623 100 0) = r617 then K σ623 else none else K σ623 else none)))))))))
def fL_case5 {ρ : Type} (N : Nat) (xs : Nat → Int32) (Ls : Nat) (x5 : Int32) (K : Hp → Option ρ) (σ : Hp) : Option ρ :=
  gd (vib (x5 + 1) Ls) (if (xs (x5 + 1).toNatClampNeg) = 0 then gd (vib (x5 + 2) Ls) (bd (fL_remove N 0 (xs (x5 + 2).toNatClampNeg) σ) (fun r675 σ675 => gd (vib (x5 + 1) Ls) (if (xs (x5 + 1).toNatClampNeg) = 0 then gd (vib (x5 + 2) Ls) (bd (f6_remove N 0 (xs (x5 + 2).toNatClampNeg) σ675) (fun r701 σ701 => bd (f6_thrown N σ701) (fun r707 σ707 => if r707 = r675 then if r675 = 0 then if (σ707 100 0) = r701 then K σ707 else none else K σ707 else none))) else gd (vib (x5 + 2) Ls) (bd (f6_remove N 1 (xs (x5 + 2).toNatClampNeg) σ675) (fun r701 σ701 => bd (f6_thrown N σ701) (fun r707 σ707 => if r707 = r675 then if r675 = 0 then if (σ707 100 0) = r701 then K σ707 else none else K σ707 else none)))))) else gd (vib (x5 + 2) Ls) (bd (fL_remove N 1 (xs (x5 + 2).toNatClampNeg) σ) (fun r675 σ675 => gd (vib (x5 + 1) Ls) (if (xs (x5 + 1).toNatClampNeg) = 0 then gd (vib (x5 + 2) Ls) (bd (f6_remove N 0 (xs (x5 + 2).toNatClampNeg) σ675) (fun r701 σ701 => bd (f6_thrown N σ701) (fun r707 σ707 => if r707 = r675 then if r675 = 0 then if (σ707 100 0) = r701 then K σ707 else none else K σ707 else none))) else gd (vib (x5 + 2) Ls) (bd (f6_remove N 1 (xs (x5 + 2).toNatClampNeg) σ675) (fun r701 σ701 => bd (f6_thrown N σ701) (fun r707 σ707 => if r707 = r675 then if r675 = 0 then if (σ707 100 0) = r701 then K σ707 else none else K σ707 else none)))))))
def fL_case6 {ρ : Type} (N : Nat) (xs : Nat → Int32) (Ls : Nat) (x5 : Int32) (K : Hp → Option ρ) (σ : Hp) : Option ρ :=
  gd (vib (x5 + 1) Ls) (gd (vib (x5 + 2) Ls) (bd (fL_story N (xs (x5 + 1).toNatClampNeg) (xs (x5 + 2).toNatClampNeg) σ) (fun r751 σ751 => gd (vib (x5 + 1) Ls) (gd (vib (x5 + 2) Ls) (bd (f6_story N (xs (x5 + 1).toNatClampNeg) (xs (x5 + 2).toNatClampNeg) σ751) (fun r769 σ769 => bd (f6_thrown N σ769) (fun r775 σ775 => if r775 = r751 then if r751 = 0 then if (σ775 100 0) = r769 then K σ775 else none else K σ775 else none)))))))
def fL_case7 {ρ : Type} (N : Nat) (xs : Nat → Int32) (Ls : Nat) (x5 : Int32) (K : Hp → Option ρ) (σ : Hp) : Option ρ :=
  gd (vib (x5 + 1) Ls) (gd (vib (x5 + 2) Ls) (bd (fL_advertisement N (xs (x5 + 1).toNatClampNeg) (xs (x5 + 2).toNatClampNeg) σ) (fun r819 σ819 => gd (vib (x5 + 1) Ls) (gd (vib (x5 + 2) Ls) (bd (f6_advertisement N (xs (x5 + 1).toNatClampNeg) (xs (x5 + 2).toNatClampNeg) σ819) (fun r837 σ837 => bd (f6_thrown N σ837) (fun r843 σ843 => if r843 = r819 then if r819 = 0 then if (σ843 100 0) = r837 then K σ843 else none else K σ843 else none)))))))
def fL_case8 {ρ : Type} (N : Nat) (xs : Nat → Int32) (Ls : Nat) (x5 : Int32) (K : Hp → Option ρ) (σ : Hp) : Option ρ :=
  gd (vib (x5 + 1) Ls) (gd (vib (x5 + 2) Ls) (gd (vib (x5 + 3) Ls) (bd (fL_cell N (xs (x5 + 1).toNatClampNeg) (xs (x5 + 2).toNatClampNeg) (xs (x5 + 3).toNatClampNeg) σ) (fun r893 σ893 => gd (vib (x5 + 1) Ls) (gd (vib (x5 + 2) Ls) (gd (vib (x5 + 3) Ls) (bd (f6_cell N (xs (x5 + 1).toNatClampNeg) (xs (x5 + 2).toNatClampNeg) (xs (x5 + 3).toNatClampNeg) σ893) (fun r917 σ917 => bd (f6_thrown N σ917) (fun r923 σ923 => if r923 = r893 then if r893 = 0 then if (σ923 100 0) = r917 then K σ923 else none else K σ923 else none)))))))))
def fL_case9 {ρ : Type} (N : Nat) (xs : Nat → Int32) (Ls : Nat) (x5 : Int32) (K : Hp → Option ρ) (σ : Hp) : Option ρ :=
  gd (vib (x5 + 1) Ls) (gd (vib (x5 + 2) Ls) (gd (vib (x5 + 3) Ls) (bd (fL_owner N (xs (x5 + 1).toNatClampNeg) (xs (x5 + 2).toNatClampNeg) (xs (x5 + 3).toNatClampNeg) σ) (fun r973 σ973 => gd (vib (x5 + 1) Ls) (gd (vib (x5 + 2) Ls) (gd (vib (x5 + 3) Ls) (bd (f6_owner N (xs (x5 + 1).toNatClampNeg) (xs (x5 + 2).toNatClampNeg) (xs (x5 + 3).toNatClampNeg) σ973) (fun r997 σ997 => bd (f6_thrown N σ997) (fun r1003 σ1003 => if r1003 = r973 then if r973 = 0 then if (σ1003 100 0) = r997 then K σ1003 else none else K σ1003 else none)))))))))
def fL_case10 {ρ : Type} (N : Nat) (xs : Nat → Int32) (Ls : Nat) (x5 : Int32) (K : Hp → Option ρ) (σ : Hp) : Option ρ :=
  gd (vib (x5 + 1) Ls) (gd (vib (x5 + 2) Ls) (gd (vib (x5 + 3) Ls) (bd (fL_part N (xs (x5 + 1).toNatClampNeg) (xs (x5 + 2).toNatClampNeg) (xs (x5 + 3).toNatClampNeg) σ) (fun r1053 σ1053 => gd (vib (x5 + 1) Ls) (gd (vib (x5 + 2) Ls) (gd (vib (x5 + 3) Ls) (bd (f6_part N (xs (x5 + 1).toNatClampNeg) (xs (x5 + 2).toNatClampNeg) (xs (x5 + 3).toNatClampNeg) σ1053) (fun r1077 σ1077 => bd (f6_thrown N σ1077) (fun r1083 σ1083 => if r1083 = r1053 then if r1053 = 0 then if (σ1083 100 0) = r1077 then K σ1083 else none else K σ1083 else none)))))))))
def fL_case11 {ρ : Type} (N : Nat) (xs : Nat → Int32) (Ls : Nat) (x5 : Int32) (K : Hp → Option ρ) (σ : Hp) : Option ρ :=
  gd (vib (x5 + 1) Ls) (gd (vib (x5 + 2) Ls) (bd (fL_locate N (xs (x5 + 1).toNatClampNeg) (xs (x5 + 2).toNatClampNeg) σ) (fun r1127 σ1127 => gd (vib (x5 + 1) Ls) (gd (vib (x5 + 2) Ls) (bd (f6_locate N (xs (x5 + 1).toNatClampNeg) (xs (x5 + 2).toNatClampNeg) σ1127) (fun r1145 σ1145 => bd (f6_thrown N σ1145) (fun r1151 σ1151 => if r1151 = r1127 then if r1127 = 0 then if (σ1151 100 0) = r1145 then K σ1151 else none else K σ1151 else none)))))))
def fL_case12 {ρ : Type} (N : Nat) (xs : Nat → Int32) (Ls : Nat) (x5 : Int32) (K : Hp → Option ρ) (σ : Hp) : Option ρ :=
  gd (vib (x5 + 1) Ls) (bd (fL_ranked N (xs (x5 + 1).toNatClampNeg) σ) (fun r1189 σ1189 => gd (vib (x5 + 1) Ls) (bd (f6_ranked N (xs (x5 + 1).toNatClampNeg) σ1189) (fun r1201 σ1201 => bd (f6_thrown N σ1201) (fun r1207 σ1207 => if r1207 = r1189 then if r1189 = 0 then if (σ1207 100 0) = r1201 then K σ1207 else none else K σ1207 else none)))))
def fL_case13 {ρ : Type} (N : Nat) (xs : Nat → Int32) (Ls : Nat) (x5 : Int32) (K : Hp → Option ρ) (σ : Hp) : Option ρ :=
  gd (vib (x5 + 1) Ls) (bd (fL_fate N (xs (x5 + 1).toNatClampNeg) σ) (fun r1245 σ1245 => gd (vib (x5 + 1) Ls) (bd (f6_fate N (xs (x5 + 1).toNatClampNeg) σ1245) (fun r1257 σ1257 => bd (f6_thrown N σ1257) (fun r1263 σ1263 => if r1263 = r1245 then if r1245 = 0 then if (σ1263 100 0) = r1257 then K σ1263 else none else K σ1263 else none)))))
def fL_case14 {ρ : Type} (N : Nat) (xs : Nat → Int32) (Ls : Nat) (x5 : Int32) (K : Hp → Option ρ) (σ : Hp) : Option ρ :=
  gd (vib (x5 + 1) Ls) (bd (fL_blamed N (xs (x5 + 1).toNatClampNeg) σ) (fun r1301 σ1301 => gd (vib (x5 + 1) Ls) (bd (f6_blamed N (xs (x5 + 1).toNatClampNeg) σ1301) (fun r1313 σ1313 => bd (f6_thrown N σ1313) (fun r1319 σ1319 => if r1319 = r1301 then if r1301 = 0 then if (σ1319 100 0) = r1313 then K σ1319 else none else K σ1319 else none)))))
def fL_case15 {ρ : Type} (N : Nat) (xs : Nat → Int32) (Ls : Nat) (x5 : Int32) (K : Hp → Option ρ) (σ : Hp) : Option ρ :=
  gd (vib (x5 + 1) Ls) (gd (vib (x5 + 2) Ls) (if (xs (x5 + 2).toNatClampNeg) = 0 then bd (fL_linesIf N (xs (x5 + 1).toNatClampNeg) 0 σ) (fun r1371 σ1371 => gd (vib (x5 + 1) Ls) (gd (vib (x5 + 2) Ls) (if (xs (x5 + 2).toNatClampNeg) = 0 then bd (f6_linesIf N (xs (x5 + 1).toNatClampNeg) 0 σ1371) (fun r1397 σ1397 => bd (f6_thrown N σ1397) (fun r1403 σ1403 => if r1403 = r1371 then if r1371 = 0 then if (σ1403 100 0) = r1397 then K σ1403 else none else K σ1403 else none)) else bd (f6_linesIf N (xs (x5 + 1).toNatClampNeg) 1 σ1371) (fun r1397 σ1397 => bd (f6_thrown N σ1397) (fun r1403 σ1403 => if r1403 = r1371 then if r1371 = 0 then if (σ1403 100 0) = r1397 then K σ1403 else none else K σ1403 else none))))) else bd (fL_linesIf N (xs (x5 + 1).toNatClampNeg) 1 σ) (fun r1371 σ1371 => gd (vib (x5 + 1) Ls) (gd (vib (x5 + 2) Ls) (if (xs (x5 + 2).toNatClampNeg) = 0 then bd (f6_linesIf N (xs (x5 + 1).toNatClampNeg) 0 σ1371) (fun r1397 σ1397 => bd (f6_thrown N σ1397) (fun r1403 σ1403 => if r1403 = r1371 then if r1371 = 0 then if (σ1403 100 0) = r1397 then K σ1403 else none else K σ1403 else none)) else bd (f6_linesIf N (xs (x5 + 1).toNatClampNeg) 1 σ1371) (fun r1397 σ1397 => bd (f6_thrown N σ1397) (fun r1403 σ1403 => if r1403 = r1371 then if r1371 = 0 then if (σ1403 100 0) = r1397 then K σ1403 else none else K σ1403 else none)))))))
def fL_case16 {ρ : Type} (N : Nat) (xs : Nat → Int32) (Ls : Nat) (x5 : Int32) (K : Hp → Option ρ) (σ : Hp) : Option ρ :=
  gd (vib (x5 + 1) Ls) (bd (fL_trim N (xs (x5 + 1).toNatClampNeg) σ) (fun r1441 σ1441 => gd (vib (x5 + 1) Ls) (bd (f6_trim N (xs (x5 + 1).toNatClampNeg) σ1441) (fun r1453 σ1453 => bd (f6_thrown N σ1453) (fun r1459 σ1459 => if r1459 = r1441 then if r1441 = 0 then if (σ1459 100 0) = r1453 then K σ1459 else none else K σ1459 else none)))))
def fL_case17 {ρ : Type} (N : Nat) (xs : Nat → Int32) (Ls : Nat) (x5 : Int32) (K : Hp → Option ρ) (σ : Hp) : Option ρ :=
  gd (vib (x5 + 1) Ls) (bd (fL_count N (xs (x5 + 1).toNatClampNeg) σ) (fun r1497 σ1497 => gd (vib (x5 + 1) Ls) (bd (f6_count N (xs (x5 + 1).toNatClampNeg) σ1497) (fun r1509 σ1509 => bd (f6_thrown N σ1509) (fun r1515 σ1515 => if r1515 = r1497 then if r1497 = 0 then if (σ1515 100 0) = r1509 then K σ1515 else none else K σ1515 else none)))))
def fL_case18 {ρ : Type} (N : Nat) (xs : Nat → Int32) (Ls : Nat) (x5 : Int32) (K : Hp → Option ρ) (σ : Hp) : Option ρ :=
  gd (vib (x5 + 1) Ls) (gd (vib (x5 + 2) Ls) (bd (fL_cellCount N (xs (x5 + 1).toNatClampNeg) (xs (x5 + 2).toNatClampNeg) σ) (fun r1559 σ1559 => gd (vib (x5 + 1) Ls) (gd (vib (x5 + 2) Ls) (bd (f6_cellCount N (xs (x5 + 1).toNatClampNeg) (xs (x5 + 2).toNatClampNeg) σ1559) (fun r1577 σ1577 => bd (f6_thrown N σ1577) (fun r1583 σ1583 => if r1583 = r1559 then if r1559 = 0 then if (σ1583 100 0) = r1577 then K σ1583 else none else K σ1583 else none)))))))
def fL_case21 {ρ : Type} (N : Nat) (xs : Nat → Int32) (Ls : Nat) (x5 : Int32) (K : Hp → Option ρ) (σ : Hp) : Option ρ :=
  bd (f5_isSound N σ) (fun r1769 σ1769 => bd (f6_isSound N σ1769) (fun r1773 σ1773 => if r1769 = r1773 then K σ1773 else none))
def fL_case22 {ρ : Type} (N : Nat) (xs : Nat → Int32) (Ls : Nat) (x5 : Int32) (K : Hp → Option ρ) (σ : Hp) : Option ρ :=
  gd (vib (x5 + 1) Ls) (gd (vib (x5 + 2) Ls) (gd (vib (x5 + 3) Ls) (if (xs (x5 + 3).toNatClampNeg) = 0 then gd (vib (x5 + 4) Ls) (bd (fL_layDown N (xs (x5 + 1).toNatClampNeg) (xs (x5 + 2).toNatClampNeg) 0 (xs (x5 + 4).toNatClampNeg) σ) (fun r1815 σ1815 => gd (vib (x5 + 1) Ls) (gd (vib (x5 + 2) Ls) (gd (vib (x5 + 3) Ls) (if (xs (x5 + 3).toNatClampNeg) = 0 then gd (vib (x5 + 4) Ls) (bd (f6_layDown N (xs (x5 + 1).toNatClampNeg) (xs (x5 + 2).toNatClampNeg) 0 (xs (x5 + 4).toNatClampNeg) σ1815) (fun r1853 σ1853 => bd (f6_thrown N σ1853) (fun r1859 σ1859 => if r1859 = r1815 then if r1815 = 0 then if (σ1859 100 0) = r1853 then K σ1859 else none else K σ1859 else none))) else gd (vib (x5 + 4) Ls) (bd (f6_layDown N (xs (x5 + 1).toNatClampNeg) (xs (x5 + 2).toNatClampNeg) 1 (xs (x5 + 4).toNatClampNeg) σ1815) (fun r1853 σ1853 => bd (f6_thrown N σ1853) (fun r1859 σ1859 => if r1859 = r1815 then if r1815 = 0 then if (σ1859 100 0) = r1853 then K σ1859 else none else K σ1859 else none)))))))) else gd (vib (x5 + 4) Ls) (bd (fL_layDown N (xs (x5 + 1).toNatClampNeg) (xs (x5 + 2).toNatClampNeg) 1 (xs (x5 + 4).toNatClampNeg) σ) (fun r1815 σ1815 => gd (vib (x5 + 1) Ls) (gd (vib (x5 + 2) Ls) (gd (vib (x5 + 3) Ls) (if (xs (x5 + 3).toNatClampNeg) = 0 then gd (vib (x5 + 4) Ls) (bd (f6_layDown N (xs (x5 + 1).toNatClampNeg) (xs (x5 + 2).toNatClampNeg) 0 (xs (x5 + 4).toNatClampNeg) σ1815) (fun r1853 σ1853 => bd (f6_thrown N σ1853) (fun r1859 σ1859 => if r1859 = r1815 then if r1815 = 0 then if (σ1859 100 0) = r1853 then K σ1859 else none else K σ1859 else none))) else gd (vib (x5 + 4) Ls) (bd (f6_layDown N (xs (x5 + 1).toNatClampNeg) (xs (x5 + 2).toNatClampNeg) 1 (xs (x5 + 4).toNatClampNeg) σ1815) (fun r1853 σ1853 => bd (f6_thrown N σ1853) (fun r1859 σ1859 => if r1859 = r1815 then if r1815 = 0 then if (σ1859 100 0) = r1853 then K σ1859 else none else K σ1859 else none)))))))))))
def fL_case23 {ρ : Type} (N : Nat) (xs : Nat → Int32) (Ls : Nat) (x5 : Int32) (K : Hp → Option ρ) (σ : Hp) : Option ρ :=
  gd (vib (x5 + 1) Ls) (gd (vib (x5 + 2) Ls) (bd (fL_takeUp N (xs (x5 + 1).toNatClampNeg) (xs (x5 + 2).toNatClampNeg) σ) (fun r1903 σ1903 => gd (vib (x5 + 1) Ls) (gd (vib (x5 + 2) Ls) (bd (f6_takeUp N (xs (x5 + 1).toNatClampNeg) (xs (x5 + 2).toNatClampNeg) σ1903) (fun r1921 σ1921 => bd (f6_thrown N σ1921) (fun r1927 σ1927 => if r1927 = r1903 then if r1903 = 0 then if (σ1927 100 0) = r1921 then K σ1927 else none else K σ1927 else none)))))))
def fL_case24 {ρ : Type} (N : Nat) (xs : Nat → Int32) (Ls : Nat) (x5 : Int32) (K : Hp → Option ρ) (σ : Hp) : Option ρ :=
  gd (vib (x5 + 1) Ls) (bd (fL_feed N (((xs (x5 + 1).toNatClampNeg).toUInt32 % 65536).toInt32) σ) (fun r1966 σ1966 => gd (vib (x5 + 1) Ls) (bd (f6_feed N (((xs (x5 + 1).toNatClampNeg).toUInt32 % 65536).toInt32) σ1966) (fun r1979 σ1979 => bd (f6_thrown N σ1979) (fun r1985 σ1985 => if r1985 = r1966 then if r1966 = 0 then if (σ1985 100 0) = r1979 then K σ1985 else none else K σ1985 else none)))))
def fL_case25 {ρ : Type} (N : Nat) (xs : Nat → Int32) (Ls : Nat) (x5 : Int32) (K : Hp → Option ρ) (σ : Hp) : Option ρ :=
  bd (fL_perform N σ) (fun r2017 σ2017 => bd (f6_perform N σ2017) (fun r2023 σ2023 => bd (f6_thrown N σ2023) (fun r2029 σ2029 => if r2029 = r2017 then if r2017 = 0 then if (σ2029 100 0) = r2023 then K σ2029 else none else K σ2029 else none)))
def fL_case26 {ρ : Type} (N : Nat) (xs : Nat → Int32) (Ls : Nat) (x5 : Int32) (K : Hp → Option ρ) (σ : Hp) : Option ρ :=
  gd (vib (x5 + 1) Ls) (gd (vib (x5 + 2) Ls) (bd (fL_report N (xs (x5 + 1).toNatClampNeg) (xs (x5 + 2).toNatClampNeg) σ) (fun r2073 σ2073 => gd (vib (x5 + 1) Ls) (gd (vib (x5 + 2) Ls) (bd (f6_report N (xs (x5 + 1).toNatClampNeg) (xs (x5 + 2).toNatClampNeg) σ2073) (fun r2091 σ2091 => bd (f6_thrown N σ2091) (fun r2097 σ2097 => if r2097 = r2073 then if r2073 = 0 then if (σ2097 100 0) = r2091 then K σ2097 else none else K σ2097 else none)))))))
def fL_case27 {ρ : Type} (N : Nat) (xs : Nat → Int32) (Ls : Nat) (x5 : Int32) (K : Hp → Option ρ) (σ : Hp) : Option ρ :=
  bd (fL_undo N σ) (fun r2129 σ2129 => bd (f6_undo N σ2129) (fun r2135 σ2135 => bd (f6_thrown N σ2135) (fun r2141 σ2141 => if r2141 = r2129 then if r2129 = 0 then if (σ2141 100 0) = r2135 then K σ2141 else none else K σ2141 else none)))
def fL_case28 {ρ : Type} (N : Nat) (xs : Nat → Int32) (Ls : Nat) (x5 : Int32) (K : Hp → Option ρ) (σ : Hp) : Option ρ :=
  bd (f5_save N σ) (fun r2172 σ2172 => bd (f6_save N σ2172) (fun r2176 σ2176 => if r2172 = r2176 then K σ2176 else none))
def fL_case29 {ρ : Type} (N : Nat) (xs : Nat → Int32) (Ls : Nat) (x5 : Int32) (K : Hp → Option ρ) (σ : Hp) : Option ρ :=
  bd (fL_restore N σ) (fun r2186 σ2186 => bd (f6_restore N σ2186) (fun r2192 σ2192 => bd (f6_thrown N σ2192) (fun r2198 σ2198 => if r2198 = r2186 then if r2186 = 0 then if (σ2198 100 0) = r2192 then K σ2198 else none else K σ2198 else none)))
set_option maxHeartbeats 4000000 in
set_option maxRecDepth 100000 in
theorem wcase0 {ρ : Type} {E : En} {p : Program} {l : Launch} {e : Env} {s : State} {m : MethodId} {args : Array Value} {below : List Frame} {meth : Method} {c : Code} {Q : ρ → State → Prop} {b Ls k n : Nat} {xs : Nat → Int32} (N : Nat) (C : Cx E 9 p s m args c code RL) (hT : l.stackTraces = false) (hX : Sc E s b Ls xs) (hk : k + 3 ≤ 601024) (hn : n + 18 ≤ 7293034) (x5 : Int32) (K : Hp → Option ρ) (HK : ∀ σ, J E 9 p l e room_1 s m args below meth c Q (K σ) 2228 [(0, .ref b), (1, .ref (ea E 0)), (2, .ref (ea E 84)), (3, .ref (ea E 100)), (4, .ref (ea E 101)), (5, .int x5)] [] σ (k + 3) (n + 18)) (σ : Hp) : J E 9 p l e room_1 s m args below meth c Q (fL_case0 N xs Ls x5 K σ) 180 [(0, .ref b), (1, .ref (ea E 0)), (2, .ref (ea E 84)), (3, .ref (ea E 100)), (4, .ref (ea E 101)), (5, .int x5)] [] σ k n := by
  unfold fL_case0
  refine j_aload_n 1 C dL_law_180 rfl rfl ?_
  refine j_aload_n 0 C dL_law_181 rfl rfl ?_
  refine j_iload 5 C dL_law_182 rfl ?_
  refine j_iconst (v := 1) 1 C dL_law_184 (by decide) ?_
  refine j_iadd C dL_law_185 ?_
  refine j_sld C hX dL_law_186 ?_
  refine j_aload_n 0 C dL_law_187 rfl rfl ?_
  refine j_iload 5 C dL_law_188 rfl ?_
  refine j_iconst (v := 2) 2 C dL_law_190 (by decide) ?_
  refine j_iadd C dL_law_191 ?_
  refine j_sld C hX dL_law_192 ?_
  refine j_aload_n 0 C dL_law_193 rfl rfl ?_
  refine j_iload 5 C dL_law_194 rfl ?_
  refine j_iconst (v := 3) 3 C dL_law_196 (by decide) ?_
  refine j_iadd C dL_law_197 ?_
  refine j_sld C hX dL_law_198 ?_
  refine j_aload_n 0 C dL_law_199 rfl rfl ?_
  refine j_iload 5 C dL_law_200 rfl ?_
  refine j_iconst (v := 4) 4 C dL_law_202 (by decide) ?_
  refine j_iadd C dL_law_203 ?_
  refine j_sld C hX dL_law_204 ?_
  refine j_aload_n 0 C dL_law_205 rfl rfl ?_
  refine j_iload 5 C dL_law_206 rfl ?_
  refine j_iconst (v := 5) 5 C dL_law_208 (by decide) ?_
  refine j_iadd C dL_law_209 ?_
  refine j_sld C hX dL_law_210 ?_
  refine j_aload_n 0 C dL_law_211 rfl rfl ?_
  refine j_iload 5 C dL_law_212 rfl ?_
  refine j_bipush (v := 6) 6 C dL_law_214 (by decide) ?_
  refine j_iadd C dL_law_216 ?_
  refine j_sld C hX dL_law_217 ?_
  refine j_aload_n 3 C dL_law_218 rfl rfl ?_
  refine j_callWI [.ref (ea E 0), .int (xs (x5 + 1).toNatClampNeg), .int (xs (x5 + 2).toNatClampNeg), .int (xs (x5 + 3).toNatClampNeg), .int (xs (x5 + 4).toNatClampNeg), .int (xs (x5 + 5).toNatClampNeg), .int (xs (x5 + 6).toNatClampNeg), .ref (ea E 100)] (conL_addAdvertisement N (xs (x5 + 1).toNatClampNeg) (xs (x5 + 2).toNatClampNeg) (xs (x5 + 3).toNatClampNeg) (xs (x5 + 4).toNatClampNeg) (xs (x5 + 5).toNatClampNeg) (xs (x5 + 6).toNatClampNeg)) C hT miL_addAdvertisement msL_addAdvertisement lkL_120 rfl rfl ⟨Nat.le_of_ble_eq_true rfl, Nat.le_of_ble_eq_true rfl, (by show k + 1 ≤ 601024; omega), (by show n + 6 ≤ 7293034; omega), Nat.le_of_ble_eq_true rfl⟩ dL_law_219 (fun r219 σ219 => ?_)
  refine j_istore [(6, .int r219), (0, .ref b), (1, .ref (ea E 0)), (2, .ref (ea E 84)), (3, .ref (ea E 100)), (4, .ref (ea E 101)), (5, .int x5)] C dL_law_222 (by decide) rfl ?_
  refine j_aload_n 3 C dL_law_224 rfl rfl ?_
  refine j_aload_n 1 C dL_law_225 rfl rfl ?_
  refine j_iload 6 C dL_law_226 rfl ?_
  refine j_iconst (v := 1) 1 C dL_law_228 (by decide) ?_
  refine j_iadd C dL_law_229 ?_
  refine j_sld C hX dL_law_230 ?_
  refine j_aload_n 1 C dL_law_231 rfl rfl ?_
  refine j_iload 6 C dL_law_232 rfl ?_
  refine j_iconst (v := 2) 2 C dL_law_234 (by decide) ?_
  refine j_iadd C dL_law_235 ?_
  refine j_sld C hX dL_law_236 ?_
  refine j_aload_n 1 C dL_law_237 rfl rfl ?_
  refine j_iload 6 C dL_law_238 rfl ?_
  refine j_iconst (v := 3) 3 C dL_law_240 (by decide) ?_
  refine j_iadd C dL_law_241 ?_
  refine j_sld C hX dL_law_242 ?_
  refine j_aload_n 1 C dL_law_243 rfl rfl ?_
  refine j_iload 6 C dL_law_244 rfl ?_
  refine j_iconst (v := 4) 4 C dL_law_246 (by decide) ?_
  refine j_iadd C dL_law_247 ?_
  refine j_sld C hX dL_law_248 ?_
  refine j_aload_n 1 C dL_law_249 rfl rfl ?_
  refine j_iload 6 C dL_law_250 rfl ?_
  refine j_iconst (v := 5) 5 C dL_law_252 (by decide) ?_
  refine j_iadd C dL_law_253 ?_
  refine j_sld C hX dL_law_254 ?_
  refine j_aload_n 1 C dL_law_255 rfl rfl ?_
  refine j_iload 6 C dL_law_256 rfl ?_
  refine j_bipush (v := 6) 6 C dL_law_258 (by decide) ?_
  refine j_iadd C dL_law_260 ?_
  refine j_sld C hX dL_law_261 ?_
  refine j_callVI [.int (xs (x5 + 1).toNatClampNeg), .int (xs (x5 + 2).toNatClampNeg), .int (xs (x5 + 3).toNatClampNeg), .int (xs (x5 + 4).toNatClampNeg), .int (xs (x5 + 5).toNatClampNeg), .int (xs (x5 + 6).toNatClampNeg)] (con6_addAdvertisement N (xs (x5 + 1).toNatClampNeg) (xs (x5 + 2).toNatClampNeg) (xs (x5 + 3).toNatClampNeg) (xs (x5 + 4).toNatClampNeg) (xs (x5 + 5).toNatClampNeg) (xs (x5 + 6).toNatClampNeg)) C mi6_addAdvertisement mv6_addAdvertisement lkL_125 (by decide) (ct_84 E _) rfl rfl rfl ⟨Nat.le_of_ble_eq_true rfl, Nat.le_of_ble_eq_true rfl, (by show k + 1 + 0 ≤ 601024; omega), (by show n + 6 + 0 ≤ 7293034; omega), Nat.le_of_ble_eq_true rfl⟩ dL_law_262 (fun r262 σ262 => ?_)
  refine j_istore [(7, .int r262), (6, .int r219), (0, .ref b), (1, .ref (ea E 0)), (2, .ref (ea E 84)), (3, .ref (ea E 100)), (4, .ref (ea E 101)), (5, .int x5)] C dL_law_265 (by decide) rfl ?_
  refine j_aload_n 4 C dL_law_267 rfl rfl ?_
  refine j_callVI [] (con6_thrown N) C mi6_thrown mv6_thrown lkL_126 (by decide) (ct_84 E _) rfl rfl rfl ⟨Nat.le_of_ble_eq_true rfl, Nat.le_of_ble_eq_true rfl, (by show k + 1 + 0 + 0 ≤ 601024; omega), (by show n + 6 + 0 + 0 ≤ 7293034; omega), Nat.le_of_ble_eq_true rfl⟩ dL_law_268 (fun r268 σ268 => ?_)
  refine j_iload 1 C dL_law_271 rfl ?_
  refine j_ieq 278 C dL_law_273 (by decide) ?_ ?_
  · refine j_iload 1 C dL_law_278 rfl ?_
    refine j_zne 295 C dL_law_280 (by decide) ?_ ?_
    · refine j_goto 2228 C dL_law_295 (by decide) ?_
      exact j_sub [2, 3, 4, 5, 6, 7] rfl (j_widen (by show k + 1 + 0 + 0 ≤ k + 3; omega) (by show n + 6 + 0 + 0 ≤ n + 18; omega) (HK σ268))
    · refine j_aload_n 5 C dL_law_283 rfl rfl ?_
      refine j_iconst (v := 0) 0 C dL_law_284 (by decide) ?_
      refine j_lald C dL_law_285 ?_
      refine j_iload 0 C dL_law_286 rfl ?_
      refine j_i2l C dL_law_288 ?_
      refine j_lceq 295 C dL_law_289 dL_law_290 (by decide) ?_ ?_
      · refine j_goto 2228 C dL_law_295 (by decide) ?_
        exact j_sub [2, 3, 4, 5, 6, 7] rfl (j_widen (by show k + 1 + 0 + 0 ≤ k + 3; omega) (by show n + 6 + 0 + 0 ≤ n + 18; omega) (HK σ268))
      · exact j_none
  · exact j_none
set_option maxHeartbeats 4000000 in
set_option maxRecDepth 100000 in
theorem wcase1 {ρ : Type} {E : En} {p : Program} {l : Launch} {e : Env} {s : State} {m : MethodId} {args : Array Value} {below : List Frame} {meth : Method} {c : Code} {Q : ρ → State → Prop} {b Ls k n : Nat} {xs : Nat → Int32} (N : Nat) (C : Cx E 9 p s m args c code RL) (hT : l.stackTraces = false) (hX : Sc E s b Ls xs) (hk : k + 3 ≤ 601024) (hn : n + 18 ≤ 7293034) (x5 : Int32) (K : Hp → Option ρ) (HK : ∀ σ, J E 9 p l e room_1 s m args below meth c Q (K σ) 2228 [(0, .ref b), (1, .ref (ea E 0)), (2, .ref (ea E 84)), (3, .ref (ea E 100)), (4, .ref (ea E 101)), (5, .int x5)] [] σ (k + 3) (n + 18)) (σ : Hp) : J E 9 p l e room_1 s m args below meth c Q (fL_case1 N xs Ls x5 K σ) 298 [(0, .ref b), (1, .ref (ea E 0)), (2, .ref (ea E 84)), (3, .ref (ea E 100)), (4, .ref (ea E 101)), (5, .int x5)] [] σ k n := by
  unfold fL_case1
  refine j_aload_n 1 C dL_law_298 rfl rfl ?_
  refine j_aload_n 0 C dL_law_299 rfl rfl ?_
  refine j_iload 5 C dL_law_300 rfl ?_
  refine j_iconst (v := 1) 1 C dL_law_302 (by decide) ?_
  refine j_iadd C dL_law_303 ?_
  refine j_sld C hX dL_law_304 ?_
  refine j_aload_n 0 C dL_law_305 rfl rfl ?_
  refine j_iload 5 C dL_law_306 rfl ?_
  refine j_iconst (v := 2) 2 C dL_law_308 (by decide) ?_
  refine j_iadd C dL_law_309 ?_
  refine j_sld C hX dL_law_310 ?_
  refine j_aload_n 0 C dL_law_311 rfl rfl ?_
  refine j_iload 5 C dL_law_312 rfl ?_
  refine j_iconst (v := 3) 3 C dL_law_314 (by decide) ?_
  refine j_iadd C dL_law_315 ?_
  refine j_sld C hX dL_law_316 ?_
  refine j_aload_n 0 C dL_law_317 rfl rfl ?_
  refine j_iload 5 C dL_law_318 rfl ?_
  refine j_iconst (v := 4) 4 C dL_law_320 (by decide) ?_
  refine j_iadd C dL_law_321 ?_
  refine j_sld C hX dL_law_322 ?_
  refine j_aload_n 0 C dL_law_323 rfl rfl ?_
  refine j_iload 5 C dL_law_324 rfl ?_
  refine j_iconst (v := 5) 5 C dL_law_326 (by decide) ?_
  refine j_iadd C dL_law_327 ?_
  refine j_sld C hX dL_law_328 ?_
  refine j_aload_n 3 C dL_law_329 rfl rfl ?_
  refine j_callWI [.ref (ea E 0), .int (xs (x5 + 1).toNatClampNeg), .int (xs (x5 + 2).toNatClampNeg), .int (xs (x5 + 3).toNatClampNeg), .int (xs (x5 + 4).toNatClampNeg), .int (xs (x5 + 5).toNatClampNeg), .ref (ea E 100)] (conL_addStory N (xs (x5 + 1).toNatClampNeg) (xs (x5 + 2).toNatClampNeg) (xs (x5 + 3).toNatClampNeg) (xs (x5 + 4).toNatClampNeg) (xs (x5 + 5).toNatClampNeg)) C hT miL_addStory msL_addStory lkL_129 rfl rfl ⟨Nat.le_of_ble_eq_true rfl, Nat.le_of_ble_eq_true rfl, (by show k + 1 ≤ 601024; omega), (by show n + 6 ≤ 7293034; omega), Nat.le_of_ble_eq_true rfl⟩ dL_law_330 (fun r330 σ330 => ?_)
  refine j_istore [(6, .int r330), (0, .ref b), (1, .ref (ea E 0)), (2, .ref (ea E 84)), (3, .ref (ea E 100)), (4, .ref (ea E 101)), (5, .int x5)] C dL_law_333 (by decide) rfl ?_
  refine j_aload_n 3 C dL_law_335 rfl rfl ?_
  refine j_aload_n 1 C dL_law_336 rfl rfl ?_
  refine j_iload 6 C dL_law_337 rfl ?_
  refine j_iconst (v := 1) 1 C dL_law_339 (by decide) ?_
  refine j_iadd C dL_law_340 ?_
  refine j_sld C hX dL_law_341 ?_
  refine j_aload_n 1 C dL_law_342 rfl rfl ?_
  refine j_iload 6 C dL_law_343 rfl ?_
  refine j_iconst (v := 2) 2 C dL_law_345 (by decide) ?_
  refine j_iadd C dL_law_346 ?_
  refine j_sld C hX dL_law_347 ?_
  refine j_aload_n 1 C dL_law_348 rfl rfl ?_
  refine j_iload 6 C dL_law_349 rfl ?_
  refine j_iconst (v := 3) 3 C dL_law_351 (by decide) ?_
  refine j_iadd C dL_law_352 ?_
  refine j_sld C hX dL_law_353 ?_
  refine j_aload_n 1 C dL_law_354 rfl rfl ?_
  refine j_iload 6 C dL_law_355 rfl ?_
  refine j_iconst (v := 4) 4 C dL_law_357 (by decide) ?_
  refine j_iadd C dL_law_358 ?_
  refine j_sld C hX dL_law_359 ?_
  refine j_aload_n 1 C dL_law_360 rfl rfl ?_
  refine j_iload 6 C dL_law_361 rfl ?_
  refine j_iconst (v := 5) 5 C dL_law_363 (by decide) ?_
  refine j_iadd C dL_law_364 ?_
  refine j_sld C hX dL_law_365 ?_
  refine j_callVI [.int (xs (x5 + 1).toNatClampNeg), .int (xs (x5 + 2).toNatClampNeg), .int (xs (x5 + 3).toNatClampNeg), .int (xs (x5 + 4).toNatClampNeg), .int (xs (x5 + 5).toNatClampNeg)] (con6_addStory N (xs (x5 + 1).toNatClampNeg) (xs (x5 + 2).toNatClampNeg) (xs (x5 + 3).toNatClampNeg) (xs (x5 + 4).toNatClampNeg) (xs (x5 + 5).toNatClampNeg)) C mi6_addStory mv6_addStory lkL_132 (by decide) (ct_84 E _) rfl rfl rfl ⟨Nat.le_of_ble_eq_true rfl, Nat.le_of_ble_eq_true rfl, (by show k + 1 + 0 ≤ 601024; omega), (by show n + 6 + 0 ≤ 7293034; omega), Nat.le_of_ble_eq_true rfl⟩ dL_law_366 (fun r366 σ366 => ?_)
  refine j_istore [(7, .int r366), (6, .int r330), (0, .ref b), (1, .ref (ea E 0)), (2, .ref (ea E 84)), (3, .ref (ea E 100)), (4, .ref (ea E 101)), (5, .int x5)] C dL_law_369 (by decide) rfl ?_
  refine j_aload_n 4 C dL_law_371 rfl rfl ?_
  refine j_callVI [] (con6_thrown N) C mi6_thrown mv6_thrown lkL_126 (by decide) (ct_84 E _) rfl rfl rfl ⟨Nat.le_of_ble_eq_true rfl, Nat.le_of_ble_eq_true rfl, (by show k + 1 + 0 + 0 ≤ 601024; omega), (by show n + 6 + 0 + 0 ≤ 7293034; omega), Nat.le_of_ble_eq_true rfl⟩ dL_law_372 (fun r372 σ372 => ?_)
  refine j_iload 1 C dL_law_375 rfl ?_
  refine j_ieq 382 C dL_law_377 (by decide) ?_ ?_
  · refine j_iload 1 C dL_law_382 rfl ?_
    refine j_zne 399 C dL_law_384 (by decide) ?_ ?_
    · refine j_goto 2228 C dL_law_399 (by decide) ?_
      exact j_sub [2, 3, 4, 5, 6, 7] rfl (j_widen (by show k + 1 + 0 + 0 ≤ k + 3; omega) (by show n + 6 + 0 + 0 ≤ n + 18; omega) (HK σ372))
    · refine j_aload_n 5 C dL_law_387 rfl rfl ?_
      refine j_iconst (v := 0) 0 C dL_law_388 (by decide) ?_
      refine j_lald C dL_law_389 ?_
      refine j_iload 0 C dL_law_390 rfl ?_
      refine j_i2l C dL_law_392 ?_
      refine j_lceq 399 C dL_law_393 dL_law_394 (by decide) ?_ ?_
      · refine j_goto 2228 C dL_law_399 (by decide) ?_
        exact j_sub [2, 3, 4, 5, 6, 7] rfl (j_widen (by show k + 1 + 0 + 0 ≤ k + 3; omega) (by show n + 6 + 0 + 0 ≤ n + 18; omega) (HK σ372))
      · exact j_none
  · exact j_none
set_option maxHeartbeats 4000000 in
set_option maxRecDepth 100000 in
theorem wcase2 {ρ : Type} {E : En} {p : Program} {l : Launch} {e : Env} {s : State} {m : MethodId} {args : Array Value} {below : List Frame} {meth : Method} {c : Code} {Q : ρ → State → Prop} {b Ls k n : Nat} {xs : Nat → Int32} (N : Nat) (C : Cx E 9 p s m args c code RL) (hT : l.stackTraces = false) (hX : Sc E s b Ls xs) (hk : k + 3 ≤ 601024) (hn : n + 18 ≤ 7293034) (x5 : Int32) (K : Hp → Option ρ) (HK : ∀ σ, J E 9 p l e room_1 s m args below meth c Q (K σ) 2228 [(0, .ref b), (1, .ref (ea E 0)), (2, .ref (ea E 84)), (3, .ref (ea E 100)), (4, .ref (ea E 101)), (5, .int x5)] [] σ (k + 3) (n + 18)) (σ : Hp) : J E 9 p l e room_1 s m args below meth c Q (fL_case2 N xs Ls x5 K σ) 402 [(0, .ref b), (1, .ref (ea E 0)), (2, .ref (ea E 84)), (3, .ref (ea E 100)), (4, .ref (ea E 101)), (5, .int x5)] [] σ k n := by
  unfold fL_case2
  refine j_aload_n 1 C dL_law_402 rfl rfl ?_
  refine j_aload_n 0 C dL_law_403 rfl rfl ?_
  refine j_iload 5 C dL_law_404 rfl ?_
  refine j_iconst (v := 1) 1 C dL_law_406 (by decide) ?_
  refine j_iadd C dL_law_407 ?_
  refine j_sld C hX dL_law_408 ?_
  refine j_aload_n 0 C dL_law_409 rfl rfl ?_
  refine j_iload 5 C dL_law_410 rfl ?_
  refine j_iconst (v := 2) 2 C dL_law_412 (by decide) ?_
  refine j_iadd C dL_law_413 ?_
  refine j_sld C hX dL_law_414 ?_
  refine j_aload_n 0 C dL_law_415 rfl rfl ?_
  refine j_iload 5 C dL_law_416 rfl ?_
  refine j_iconst (v := 3) 3 C dL_law_418 (by decide) ?_
  refine j_iadd C dL_law_419 ?_
  refine j_sld C hX dL_law_420 ?_
  refine j_aload_n 3 C dL_law_421 rfl rfl ?_
  refine j_callWI [.ref (ea E 0), .int (xs (x5 + 1).toNatClampNeg), .int (xs (x5 + 2).toNatClampNeg), .int (xs (x5 + 3).toNatClampNeg), .ref (ea E 100)] (conL_setPhoto N (xs (x5 + 1).toNatClampNeg) (xs (x5 + 2).toNatClampNeg) (xs (x5 + 3).toNatClampNeg)) C hT miL_setPhoto msL_setPhoto lkL_133 rfl rfl ⟨Nat.le_of_ble_eq_true rfl, Nat.le_of_ble_eq_true rfl, (by show k + 1 ≤ 601024; omega), (by show n + 6 ≤ 7293034; omega), Nat.le_of_ble_eq_true rfl⟩ dL_law_422 (fun r422 σ422 => ?_)
  refine j_istore [(6, .int r422), (0, .ref b), (1, .ref (ea E 0)), (2, .ref (ea E 84)), (3, .ref (ea E 100)), (4, .ref (ea E 101)), (5, .int x5)] C dL_law_425 (by decide) rfl ?_
  refine j_aload_n 3 C dL_law_427 rfl rfl ?_
  refine j_aload_n 1 C dL_law_428 rfl rfl ?_
  refine j_iload 6 C dL_law_429 rfl ?_
  refine j_iconst (v := 1) 1 C dL_law_431 (by decide) ?_
  refine j_iadd C dL_law_432 ?_
  refine j_sld C hX dL_law_433 ?_
  refine j_aload_n 1 C dL_law_434 rfl rfl ?_
  refine j_iload 6 C dL_law_435 rfl ?_
  refine j_iconst (v := 2) 2 C dL_law_437 (by decide) ?_
  refine j_iadd C dL_law_438 ?_
  refine j_sld C hX dL_law_439 ?_
  refine j_aload_n 1 C dL_law_440 rfl rfl ?_
  refine j_iload 6 C dL_law_441 rfl ?_
  refine j_iconst (v := 3) 3 C dL_law_443 (by decide) ?_
  refine j_iadd C dL_law_444 ?_
  refine j_sld C hX dL_law_445 ?_
  refine j_callVI [.int (xs (x5 + 1).toNatClampNeg), .int (xs (x5 + 2).toNatClampNeg), .int (xs (x5 + 3).toNatClampNeg)] (con6_setPhoto N (xs (x5 + 1).toNatClampNeg) (xs (x5 + 2).toNatClampNeg) (xs (x5 + 3).toNatClampNeg)) C mi6_setPhoto mv6_setPhoto lkL_136 (by decide) (ct_84 E _) rfl rfl rfl ⟨Nat.le_of_ble_eq_true rfl, Nat.le_of_ble_eq_true rfl, (by show k + 1 + 0 ≤ 601024; omega), (by show n + 6 + 0 ≤ 7293034; omega), Nat.le_of_ble_eq_true rfl⟩ dL_law_446 (fun r446 σ446 => ?_)
  refine j_istore [(7, .int r446), (6, .int r422), (0, .ref b), (1, .ref (ea E 0)), (2, .ref (ea E 84)), (3, .ref (ea E 100)), (4, .ref (ea E 101)), (5, .int x5)] C dL_law_449 (by decide) rfl ?_
  refine j_aload_n 4 C dL_law_451 rfl rfl ?_
  refine j_callVI [] (con6_thrown N) C mi6_thrown mv6_thrown lkL_126 (by decide) (ct_84 E _) rfl rfl rfl ⟨Nat.le_of_ble_eq_true rfl, Nat.le_of_ble_eq_true rfl, (by show k + 1 + 0 + 0 ≤ 601024; omega), (by show n + 6 + 0 + 0 ≤ 7293034; omega), Nat.le_of_ble_eq_true rfl⟩ dL_law_452 (fun r452 σ452 => ?_)
  refine j_iload 1 C dL_law_455 rfl ?_
  refine j_ieq 462 C dL_law_457 (by decide) ?_ ?_
  · refine j_iload 1 C dL_law_462 rfl ?_
    refine j_zne 479 C dL_law_464 (by decide) ?_ ?_
    · refine j_goto 2228 C dL_law_479 (by decide) ?_
      exact j_sub [2, 3, 4, 5, 6, 7] rfl (j_widen (by show k + 1 + 0 + 0 ≤ k + 3; omega) (by show n + 6 + 0 + 0 ≤ n + 18; omega) (HK σ452))
    · refine j_aload_n 5 C dL_law_467 rfl rfl ?_
      refine j_iconst (v := 0) 0 C dL_law_468 (by decide) ?_
      refine j_lald C dL_law_469 ?_
      refine j_iload 0 C dL_law_470 rfl ?_
      refine j_i2l C dL_law_472 ?_
      refine j_lceq 479 C dL_law_473 dL_law_474 (by decide) ?_ ?_
      · refine j_goto 2228 C dL_law_479 (by decide) ?_
        exact j_sub [2, 3, 4, 5, 6, 7] rfl (j_widen (by show k + 1 + 0 + 0 ≤ k + 3; omega) (by show n + 6 + 0 + 0 ≤ n + 18; omega) (HK σ452))
      · exact j_none
  · exact j_none
set_option maxHeartbeats 4000000 in
set_option maxRecDepth 100000 in
theorem wcase3 {ρ : Type} {E : En} {p : Program} {l : Launch} {e : Env} {s : State} {m : MethodId} {args : Array Value} {below : List Frame} {meth : Method} {c : Code} {Q : ρ → State → Prop} {b Ls k n : Nat} {xs : Nat → Int32} (N : Nat) (C : Cx E 9 p s m args c code RL) (hT : l.stackTraces = false) (hX : Sc E s b Ls xs) (hk : k + 3 ≤ 601024) (hn : n + 18 ≤ 7293034) (x5 : Int32) (K : Hp → Option ρ) (HK : ∀ σ, J E 9 p l e room_1 s m args below meth c Q (K σ) 2228 [(0, .ref b), (1, .ref (ea E 0)), (2, .ref (ea E 84)), (3, .ref (ea E 100)), (4, .ref (ea E 101)), (5, .int x5)] [] σ (k + 3) (n + 18)) (σ : Hp) : J E 9 p l e room_1 s m args below meth c Q (fL_case3 N xs Ls x5 K σ) 482 [(0, .ref b), (1, .ref (ea E 0)), (2, .ref (ea E 84)), (3, .ref (ea E 100)), (4, .ref (ea E 101)), (5, .int x5)] [] σ k n := by
  unfold fL_case3
  refine j_aload_n 1 C dL_law_482 rfl rfl ?_
  refine j_aload_n 0 C dL_law_483 rfl rfl ?_
  refine j_iload 5 C dL_law_484 rfl ?_
  refine j_iconst (v := 1) 1 C dL_law_486 (by decide) ?_
  refine j_iadd C dL_law_487 ?_
  refine j_sld C hX dL_law_488 ?_
  refine j_aload_n 0 C dL_law_489 rfl rfl ?_
  refine j_iload 5 C dL_law_490 rfl ?_
  refine j_iconst (v := 2) 2 C dL_law_492 (by decide) ?_
  refine j_iadd C dL_law_493 ?_
  refine j_sld C hX dL_law_494 ?_
  refine j_zeq 502 C dL_law_495 (by decide) ?_ ?_
  · refine j_iconst (v := 0) 0 C dL_law_502 (by decide) ?_
    refine j_aload_n 3 C dL_law_503 rfl rfl ?_
    refine j_callWI [.ref (ea E 0), .int (xs (x5 + 1).toNatClampNeg), .int 0, .ref (ea E 100)] (conL_setLate N (xs (x5 + 1).toNatClampNeg) 0) C hT miL_setLate msL_setLate lkL_137 rfl rfl ⟨Nat.le_of_ble_eq_true rfl, Nat.le_of_ble_eq_true rfl, (by show k + 1 ≤ 601024; omega), (by show n + 6 ≤ 7293034; omega), Nat.le_of_ble_eq_true rfl⟩ dL_law_504 (fun r504 σ504 => ?_)
    refine j_istore [(6, .int r504), (0, .ref b), (1, .ref (ea E 0)), (2, .ref (ea E 84)), (3, .ref (ea E 100)), (4, .ref (ea E 101)), (5, .int x5)] C dL_law_507 (by decide) rfl ?_
    refine j_aload_n 3 C dL_law_509 rfl rfl ?_
    refine j_aload_n 1 C dL_law_510 rfl rfl ?_
    refine j_iload 6 C dL_law_511 rfl ?_
    refine j_iconst (v := 1) 1 C dL_law_513 (by decide) ?_
    refine j_iadd C dL_law_514 ?_
    refine j_sld C hX dL_law_515 ?_
    refine j_aload_n 1 C dL_law_516 rfl rfl ?_
    refine j_iload 6 C dL_law_517 rfl ?_
    refine j_iconst (v := 2) 2 C dL_law_519 (by decide) ?_
    refine j_iadd C dL_law_520 ?_
    refine j_sld C hX dL_law_521 ?_
    refine j_zeq 529 C dL_law_522 (by decide) ?_ ?_
    · refine j_iconst (v := 0) 0 C dL_law_529 (by decide) ?_
      refine j_callVI [.int (xs (x5 + 1).toNatClampNeg), .int 0] (con6_setLate N (xs (x5 + 1).toNatClampNeg) 0) C mi6_setLate mv6_setLate lkL_140 (by decide) (ct_84 E _) rfl rfl rfl ⟨Nat.le_of_ble_eq_true rfl, Nat.le_of_ble_eq_true rfl, (by show k + 1 + 0 ≤ 601024; omega), (by show n + 6 + 0 ≤ 7293034; omega), Nat.le_of_ble_eq_true rfl⟩ dL_law_530 (fun r530 σ530 => ?_)
      refine j_istore [(7, .int r530), (6, .int r504), (0, .ref b), (1, .ref (ea E 0)), (2, .ref (ea E 84)), (3, .ref (ea E 100)), (4, .ref (ea E 101)), (5, .int x5)] C dL_law_533 (by decide) rfl ?_
      refine j_aload_n 4 C dL_law_535 rfl rfl ?_
      refine j_callVI [] (con6_thrown N) C mi6_thrown mv6_thrown lkL_126 (by decide) (ct_84 E _) rfl rfl rfl ⟨Nat.le_of_ble_eq_true rfl, Nat.le_of_ble_eq_true rfl, (by show k + 1 + 0 + 0 ≤ 601024; omega), (by show n + 6 + 0 + 0 ≤ 7293034; omega), Nat.le_of_ble_eq_true rfl⟩ dL_law_536 (fun r536 σ536 => ?_)
      refine j_iload 1 C dL_law_539 rfl ?_
      refine j_ieq 546 C dL_law_541 (by decide) ?_ ?_
      · refine j_iload 1 C dL_law_546 rfl ?_
        refine j_zne 570 C dL_law_548 (by decide) ?_ ?_
        · refine j_goto 2228 C dL_law_570 (by decide) ?_
          exact j_sub [2, 3, 4, 5, 6, 7] rfl (j_widen (by show k + 1 + 0 + 0 ≤ k + 3; omega) (by show n + 6 + 0 + 0 ≤ n + 18; omega) (HK σ536))
        · refine j_aload_n 5 C dL_law_551 rfl rfl ?_
          refine j_iconst (v := 0) 0 C dL_law_552 (by decide) ?_
          refine j_lald C dL_law_553 ?_
          refine j_iload 0 C dL_law_554 rfl ?_
          refine j_zeq 563 C dL_law_556 (by decide) ?_ ?_
          · refine j_lconst 0 C dL_law_563 (by decide) ?_
            refine j_lceq 570 C dL_law_564 dL_law_565 (by decide) ?_ ?_
            · refine j_goto 2228 C dL_law_570 (by decide) ?_
              exact j_sub [2, 3, 4, 5, 6, 7] rfl (j_widen (by show k + 1 + 0 + 0 ≤ k + 3; omega) (by show n + 6 + 0 + 0 ≤ n + 18; omega) (HK σ536))
            · exact j_none
          · refine j_lconst 1 C dL_law_559 (by decide) ?_
            refine j_goto 564 C dL_law_560 (by decide) ?_
            refine j_lceq 570 C dL_law_564 dL_law_565 (by decide) ?_ ?_
            · refine j_goto 2228 C dL_law_570 (by decide) ?_
              exact j_sub [2, 3, 4, 5, 6, 7] rfl (j_widen (by show k + 1 + 0 + 0 ≤ k + 3; omega) (by show n + 6 + 0 + 0 ≤ n + 18; omega) (HK σ536))
            · exact j_none
      · exact j_none
    · refine j_iconst (v := 1) 1 C dL_law_525 (by decide) ?_
      refine j_goto 530 C dL_law_526 (by decide) ?_
      refine j_callVI [.int (xs (x5 + 1).toNatClampNeg), .int 1] (con6_setLate N (xs (x5 + 1).toNatClampNeg) 1) C mi6_setLate mv6_setLate lkL_140 (by decide) (ct_84 E _) rfl rfl rfl ⟨Nat.le_of_ble_eq_true rfl, Nat.le_of_ble_eq_true rfl, (by show k + 1 + 0 ≤ 601024; omega), (by show n + 6 + 0 ≤ 7293034; omega), Nat.le_of_ble_eq_true rfl⟩ dL_law_530 (fun r530 σ530 => ?_)
      refine j_istore [(7, .int r530), (6, .int r504), (0, .ref b), (1, .ref (ea E 0)), (2, .ref (ea E 84)), (3, .ref (ea E 100)), (4, .ref (ea E 101)), (5, .int x5)] C dL_law_533 (by decide) rfl ?_
      refine j_aload_n 4 C dL_law_535 rfl rfl ?_
      refine j_callVI [] (con6_thrown N) C mi6_thrown mv6_thrown lkL_126 (by decide) (ct_84 E _) rfl rfl rfl ⟨Nat.le_of_ble_eq_true rfl, Nat.le_of_ble_eq_true rfl, (by show k + 1 + 0 + 0 ≤ 601024; omega), (by show n + 6 + 0 + 0 ≤ 7293034; omega), Nat.le_of_ble_eq_true rfl⟩ dL_law_536 (fun r536 σ536 => ?_)
      refine j_iload 1 C dL_law_539 rfl ?_
      refine j_ieq 546 C dL_law_541 (by decide) ?_ ?_
      · refine j_iload 1 C dL_law_546 rfl ?_
        refine j_zne 570 C dL_law_548 (by decide) ?_ ?_
        · refine j_goto 2228 C dL_law_570 (by decide) ?_
          exact j_sub [2, 3, 4, 5, 6, 7] rfl (j_widen (by show k + 1 + 0 + 0 ≤ k + 3; omega) (by show n + 6 + 0 + 0 ≤ n + 18; omega) (HK σ536))
        · refine j_aload_n 5 C dL_law_551 rfl rfl ?_
          refine j_iconst (v := 0) 0 C dL_law_552 (by decide) ?_
          refine j_lald C dL_law_553 ?_
          refine j_iload 0 C dL_law_554 rfl ?_
          refine j_zeq 563 C dL_law_556 (by decide) ?_ ?_
          · refine j_lconst 0 C dL_law_563 (by decide) ?_
            refine j_lceq 570 C dL_law_564 dL_law_565 (by decide) ?_ ?_
            · refine j_goto 2228 C dL_law_570 (by decide) ?_
              exact j_sub [2, 3, 4, 5, 6, 7] rfl (j_widen (by show k + 1 + 0 + 0 ≤ k + 3; omega) (by show n + 6 + 0 + 0 ≤ n + 18; omega) (HK σ536))
            · exact j_none
          · refine j_lconst 1 C dL_law_559 (by decide) ?_
            refine j_goto 564 C dL_law_560 (by decide) ?_
            refine j_lceq 570 C dL_law_564 dL_law_565 (by decide) ?_ ?_
            · refine j_goto 2228 C dL_law_570 (by decide) ?_
              exact j_sub [2, 3, 4, 5, 6, 7] rfl (j_widen (by show k + 1 + 0 + 0 ≤ k + 3; omega) (by show n + 6 + 0 + 0 ≤ n + 18; omega) (HK σ536))
            · exact j_none
      · exact j_none
  · refine j_iconst (v := 1) 1 C dL_law_498 (by decide) ?_
    refine j_goto 503 C dL_law_499 (by decide) ?_
    refine j_aload_n 3 C dL_law_503 rfl rfl ?_
    refine j_callWI [.ref (ea E 0), .int (xs (x5 + 1).toNatClampNeg), .int 1, .ref (ea E 100)] (conL_setLate N (xs (x5 + 1).toNatClampNeg) 1) C hT miL_setLate msL_setLate lkL_137 rfl rfl ⟨Nat.le_of_ble_eq_true rfl, Nat.le_of_ble_eq_true rfl, (by show k + 1 ≤ 601024; omega), (by show n + 6 ≤ 7293034; omega), Nat.le_of_ble_eq_true rfl⟩ dL_law_504 (fun r504 σ504 => ?_)
    refine j_istore [(6, .int r504), (0, .ref b), (1, .ref (ea E 0)), (2, .ref (ea E 84)), (3, .ref (ea E 100)), (4, .ref (ea E 101)), (5, .int x5)] C dL_law_507 (by decide) rfl ?_
    refine j_aload_n 3 C dL_law_509 rfl rfl ?_
    refine j_aload_n 1 C dL_law_510 rfl rfl ?_
    refine j_iload 6 C dL_law_511 rfl ?_
    refine j_iconst (v := 1) 1 C dL_law_513 (by decide) ?_
    refine j_iadd C dL_law_514 ?_
    refine j_sld C hX dL_law_515 ?_
    refine j_aload_n 1 C dL_law_516 rfl rfl ?_
    refine j_iload 6 C dL_law_517 rfl ?_
    refine j_iconst (v := 2) 2 C dL_law_519 (by decide) ?_
    refine j_iadd C dL_law_520 ?_
    refine j_sld C hX dL_law_521 ?_
    refine j_zeq 529 C dL_law_522 (by decide) ?_ ?_
    · refine j_iconst (v := 0) 0 C dL_law_529 (by decide) ?_
      refine j_callVI [.int (xs (x5 + 1).toNatClampNeg), .int 0] (con6_setLate N (xs (x5 + 1).toNatClampNeg) 0) C mi6_setLate mv6_setLate lkL_140 (by decide) (ct_84 E _) rfl rfl rfl ⟨Nat.le_of_ble_eq_true rfl, Nat.le_of_ble_eq_true rfl, (by show k + 1 + 0 ≤ 601024; omega), (by show n + 6 + 0 ≤ 7293034; omega), Nat.le_of_ble_eq_true rfl⟩ dL_law_530 (fun r530 σ530 => ?_)
      refine j_istore [(7, .int r530), (6, .int r504), (0, .ref b), (1, .ref (ea E 0)), (2, .ref (ea E 84)), (3, .ref (ea E 100)), (4, .ref (ea E 101)), (5, .int x5)] C dL_law_533 (by decide) rfl ?_
      refine j_aload_n 4 C dL_law_535 rfl rfl ?_
      refine j_callVI [] (con6_thrown N) C mi6_thrown mv6_thrown lkL_126 (by decide) (ct_84 E _) rfl rfl rfl ⟨Nat.le_of_ble_eq_true rfl, Nat.le_of_ble_eq_true rfl, (by show k + 1 + 0 + 0 ≤ 601024; omega), (by show n + 6 + 0 + 0 ≤ 7293034; omega), Nat.le_of_ble_eq_true rfl⟩ dL_law_536 (fun r536 σ536 => ?_)
      refine j_iload 1 C dL_law_539 rfl ?_
      refine j_ieq 546 C dL_law_541 (by decide) ?_ ?_
      · refine j_iload 1 C dL_law_546 rfl ?_
        refine j_zne 570 C dL_law_548 (by decide) ?_ ?_
        · refine j_goto 2228 C dL_law_570 (by decide) ?_
          exact j_sub [2, 3, 4, 5, 6, 7] rfl (j_widen (by show k + 1 + 0 + 0 ≤ k + 3; omega) (by show n + 6 + 0 + 0 ≤ n + 18; omega) (HK σ536))
        · refine j_aload_n 5 C dL_law_551 rfl rfl ?_
          refine j_iconst (v := 0) 0 C dL_law_552 (by decide) ?_
          refine j_lald C dL_law_553 ?_
          refine j_iload 0 C dL_law_554 rfl ?_
          refine j_zeq 563 C dL_law_556 (by decide) ?_ ?_
          · refine j_lconst 0 C dL_law_563 (by decide) ?_
            refine j_lceq 570 C dL_law_564 dL_law_565 (by decide) ?_ ?_
            · refine j_goto 2228 C dL_law_570 (by decide) ?_
              exact j_sub [2, 3, 4, 5, 6, 7] rfl (j_widen (by show k + 1 + 0 + 0 ≤ k + 3; omega) (by show n + 6 + 0 + 0 ≤ n + 18; omega) (HK σ536))
            · exact j_none
          · refine j_lconst 1 C dL_law_559 (by decide) ?_
            refine j_goto 564 C dL_law_560 (by decide) ?_
            refine j_lceq 570 C dL_law_564 dL_law_565 (by decide) ?_ ?_
            · refine j_goto 2228 C dL_law_570 (by decide) ?_
              exact j_sub [2, 3, 4, 5, 6, 7] rfl (j_widen (by show k + 1 + 0 + 0 ≤ k + 3; omega) (by show n + 6 + 0 + 0 ≤ n + 18; omega) (HK σ536))
            · exact j_none
      · exact j_none
    · refine j_iconst (v := 1) 1 C dL_law_525 (by decide) ?_
      refine j_goto 530 C dL_law_526 (by decide) ?_
      refine j_callVI [.int (xs (x5 + 1).toNatClampNeg), .int 1] (con6_setLate N (xs (x5 + 1).toNatClampNeg) 1) C mi6_setLate mv6_setLate lkL_140 (by decide) (ct_84 E _) rfl rfl rfl ⟨Nat.le_of_ble_eq_true rfl, Nat.le_of_ble_eq_true rfl, (by show k + 1 + 0 ≤ 601024; omega), (by show n + 6 + 0 ≤ 7293034; omega), Nat.le_of_ble_eq_true rfl⟩ dL_law_530 (fun r530 σ530 => ?_)
      refine j_istore [(7, .int r530), (6, .int r504), (0, .ref b), (1, .ref (ea E 0)), (2, .ref (ea E 84)), (3, .ref (ea E 100)), (4, .ref (ea E 101)), (5, .int x5)] C dL_law_533 (by decide) rfl ?_
      refine j_aload_n 4 C dL_law_535 rfl rfl ?_
      refine j_callVI [] (con6_thrown N) C mi6_thrown mv6_thrown lkL_126 (by decide) (ct_84 E _) rfl rfl rfl ⟨Nat.le_of_ble_eq_true rfl, Nat.le_of_ble_eq_true rfl, (by show k + 1 + 0 + 0 ≤ 601024; omega), (by show n + 6 + 0 + 0 ≤ 7293034; omega), Nat.le_of_ble_eq_true rfl⟩ dL_law_536 (fun r536 σ536 => ?_)
      refine j_iload 1 C dL_law_539 rfl ?_
      refine j_ieq 546 C dL_law_541 (by decide) ?_ ?_
      · refine j_iload 1 C dL_law_546 rfl ?_
        refine j_zne 570 C dL_law_548 (by decide) ?_ ?_
        · refine j_goto 2228 C dL_law_570 (by decide) ?_
          exact j_sub [2, 3, 4, 5, 6, 7] rfl (j_widen (by show k + 1 + 0 + 0 ≤ k + 3; omega) (by show n + 6 + 0 + 0 ≤ n + 18; omega) (HK σ536))
        · refine j_aload_n 5 C dL_law_551 rfl rfl ?_
          refine j_iconst (v := 0) 0 C dL_law_552 (by decide) ?_
          refine j_lald C dL_law_553 ?_
          refine j_iload 0 C dL_law_554 rfl ?_
          refine j_zeq 563 C dL_law_556 (by decide) ?_ ?_
          · refine j_lconst 0 C dL_law_563 (by decide) ?_
            refine j_lceq 570 C dL_law_564 dL_law_565 (by decide) ?_ ?_
            · refine j_goto 2228 C dL_law_570 (by decide) ?_
              exact j_sub [2, 3, 4, 5, 6, 7] rfl (j_widen (by show k + 1 + 0 + 0 ≤ k + 3; omega) (by show n + 6 + 0 + 0 ≤ n + 18; omega) (HK σ536))
            · exact j_none
          · refine j_lconst 1 C dL_law_559 (by decide) ?_
            refine j_goto 564 C dL_law_560 (by decide) ?_
            refine j_lceq 570 C dL_law_564 dL_law_565 (by decide) ?_ ?_
            · refine j_goto 2228 C dL_law_570 (by decide) ?_
              exact j_sub [2, 3, 4, 5, 6, 7] rfl (j_widen (by show k + 1 + 0 + 0 ≤ k + 3; omega) (by show n + 6 + 0 + 0 ≤ n + 18; omega) (HK σ536))
            · exact j_none
      · exact j_none
set_option maxHeartbeats 4000000 in
set_option maxRecDepth 100000 in
theorem wcase4 {ρ : Type} {E : En} {p : Program} {l : Launch} {e : Env} {s : State} {m : MethodId} {args : Array Value} {below : List Frame} {meth : Method} {c : Code} {Q : ρ → State → Prop} {b Ls k n : Nat} {xs : Nat → Int32} (N : Nat) (C : Cx E 9 p s m args c code RL) (hT : l.stackTraces = false) (hX : Sc E s b Ls xs) (hk : k + 3 ≤ 601024) (hn : n + 18 ≤ 7293034) (x5 : Int32) (K : Hp → Option ρ) (HK : ∀ σ, J E 9 p l e room_1 s m args below meth c Q (K σ) 2228 [(0, .ref b), (1, .ref (ea E 0)), (2, .ref (ea E 84)), (3, .ref (ea E 100)), (4, .ref (ea E 101)), (5, .int x5)] [] σ (k + 3) (n + 18)) (σ : Hp) : J E 9 p l e room_1 s m args below meth c Q (fL_case4 N xs Ls x5 K σ) 573 [(0, .ref b), (1, .ref (ea E 0)), (2, .ref (ea E 84)), (3, .ref (ea E 100)), (4, .ref (ea E 101)), (5, .int x5)] [] σ k n := by
  unfold fL_case4
  refine j_aload_n 1 C dL_law_573 rfl rfl ?_
  refine j_aload_n 0 C dL_law_574 rfl rfl ?_
  refine j_iload 5 C dL_law_575 rfl ?_
  refine j_iconst (v := 1) 1 C dL_law_577 (by decide) ?_
  refine j_iadd C dL_law_578 ?_
  refine j_sld C hX dL_law_579 ?_
  refine j_aload_n 0 C dL_law_580 rfl rfl ?_
  refine j_iload 5 C dL_law_581 rfl ?_
  refine j_iconst (v := 2) 2 C dL_law_583 (by decide) ?_
  refine j_iadd C dL_law_584 ?_
  refine j_sld C hX dL_law_585 ?_
  refine j_aload_n 0 C dL_law_586 rfl rfl ?_
  refine j_iload 5 C dL_law_587 rfl ?_
  refine j_iconst (v := 3) 3 C dL_law_589 (by decide) ?_
  refine j_iadd C dL_law_590 ?_
  refine j_sld C hX dL_law_591 ?_
  refine j_aload_n 3 C dL_law_592 rfl rfl ?_
  refine j_callWI [.ref (ea E 0), .int (xs (x5 + 1).toNatClampNeg), .int (xs (x5 + 2).toNatClampNeg), .int (xs (x5 + 3).toNatClampNeg), .ref (ea E 100)] (conL_change N (xs (x5 + 1).toNatClampNeg) (xs (x5 + 2).toNatClampNeg) (xs (x5 + 3).toNatClampNeg)) C hT miL_change msL_change lkL_141 rfl rfl ⟨Nat.le_of_ble_eq_true rfl, Nat.le_of_ble_eq_true rfl, (by show k + 2 ≤ 601024; omega), (by show n + 12 ≤ 7293034; omega), Nat.le_of_ble_eq_true rfl⟩ dL_law_593 (fun r593 σ593 => ?_)
  refine j_istore [(6, .int r593), (0, .ref b), (1, .ref (ea E 0)), (2, .ref (ea E 84)), (3, .ref (ea E 100)), (4, .ref (ea E 101)), (5, .int x5)] C dL_law_596 (by decide) rfl ?_
  refine j_aload_n 3 C dL_law_598 rfl rfl ?_
  refine j_aload_n 1 C dL_law_599 rfl rfl ?_
  refine j_iload 6 C dL_law_600 rfl ?_
  refine j_iconst (v := 1) 1 C dL_law_602 (by decide) ?_
  refine j_iadd C dL_law_603 ?_
  refine j_sld C hX dL_law_604 ?_
  refine j_aload_n 1 C dL_law_605 rfl rfl ?_
  refine j_iload 6 C dL_law_606 rfl ?_
  refine j_iconst (v := 2) 2 C dL_law_608 (by decide) ?_
  refine j_iadd C dL_law_609 ?_
  refine j_sld C hX dL_law_610 ?_
  refine j_aload_n 1 C dL_law_611 rfl rfl ?_
  refine j_iload 6 C dL_law_612 rfl ?_
  refine j_iconst (v := 3) 3 C dL_law_614 (by decide) ?_
  refine j_iadd C dL_law_615 ?_
  refine j_sld C hX dL_law_616 ?_
  refine j_callVI [.int (xs (x5 + 1).toNatClampNeg), .int (xs (x5 + 2).toNatClampNeg), .int (xs (x5 + 3).toNatClampNeg)] (con6_change N (xs (x5 + 1).toNatClampNeg) (xs (x5 + 2).toNatClampNeg) (xs (x5 + 3).toNatClampNeg)) C mi6_change mv6_change lkL_143 (by decide) (ct_84 E _) rfl rfl rfl ⟨Nat.le_of_ble_eq_true rfl, Nat.le_of_ble_eq_true rfl, (by show k + 2 + 0 ≤ 601024; omega), (by show n + 12 + 0 ≤ 7293034; omega), Nat.le_of_ble_eq_true rfl⟩ dL_law_617 (fun r617 σ617 => ?_)
  refine j_istore [(7, .int r617), (6, .int r593), (0, .ref b), (1, .ref (ea E 0)), (2, .ref (ea E 84)), (3, .ref (ea E 100)), (4, .ref (ea E 101)), (5, .int x5)] C dL_law_620 (by decide) rfl ?_
  refine j_aload_n 4 C dL_law_622 rfl rfl ?_
  refine j_callVI [] (con6_thrown N) C mi6_thrown mv6_thrown lkL_126 (by decide) (ct_84 E _) rfl rfl rfl ⟨Nat.le_of_ble_eq_true rfl, Nat.le_of_ble_eq_true rfl, (by show k + 2 + 0 + 0 ≤ 601024; omega), (by show n + 12 + 0 + 0 ≤ 7293034; omega), Nat.le_of_ble_eq_true rfl⟩ dL_law_623 (fun r623 σ623 => ?_)
  refine j_iload 1 C dL_law_626 rfl ?_
  refine j_ieq 633 C dL_law_628 (by decide) ?_ ?_
  · refine j_iload 1 C dL_law_633 rfl ?_
    refine j_zne 650 C dL_law_635 (by decide) ?_ ?_
    · refine j_goto 2228 C dL_law_650 (by decide) ?_
      exact j_sub [2, 3, 4, 5, 6, 7] rfl (j_widen (by show k + 2 + 0 + 0 ≤ k + 3; omega) (by show n + 12 + 0 + 0 ≤ n + 18; omega) (HK σ623))
    · refine j_aload_n 5 C dL_law_638 rfl rfl ?_
      refine j_iconst (v := 0) 0 C dL_law_639 (by decide) ?_
      refine j_lald C dL_law_640 ?_
      refine j_iload 0 C dL_law_641 rfl ?_
      refine j_i2l C dL_law_643 ?_
      refine j_lceq 650 C dL_law_644 dL_law_645 (by decide) ?_ ?_
      · refine j_goto 2228 C dL_law_650 (by decide) ?_
        exact j_sub [2, 3, 4, 5, 6, 7] rfl (j_widen (by show k + 2 + 0 + 0 ≤ k + 3; omega) (by show n + 12 + 0 + 0 ≤ n + 18; omega) (HK σ623))
      · exact j_none
  · exact j_none
set_option maxHeartbeats 4000000 in
set_option maxRecDepth 100000 in
theorem wcase5 {ρ : Type} {E : En} {p : Program} {l : Launch} {e : Env} {s : State} {m : MethodId} {args : Array Value} {below : List Frame} {meth : Method} {c : Code} {Q : ρ → State → Prop} {b Ls k n : Nat} {xs : Nat → Int32} (N : Nat) (C : Cx E 9 p s m args c code RL) (hT : l.stackTraces = false) (hX : Sc E s b Ls xs) (hk : k + 3 ≤ 601024) (hn : n + 18 ≤ 7293034) (x5 : Int32) (K : Hp → Option ρ) (HK : ∀ σ, J E 9 p l e room_1 s m args below meth c Q (K σ) 2228 [(0, .ref b), (1, .ref (ea E 0)), (2, .ref (ea E 84)), (3, .ref (ea E 100)), (4, .ref (ea E 101)), (5, .int x5)] [] σ (k + 3) (n + 18)) (σ : Hp) : J E 9 p l e room_1 s m args below meth c Q (fL_case5 N xs Ls x5 K σ) 653 [(0, .ref b), (1, .ref (ea E 0)), (2, .ref (ea E 84)), (3, .ref (ea E 100)), (4, .ref (ea E 101)), (5, .int x5)] [] σ k n := by
  unfold fL_case5
  refine j_aload_n 1 C dL_law_653 rfl rfl ?_
  refine j_aload_n 0 C dL_law_654 rfl rfl ?_
  refine j_iload 5 C dL_law_655 rfl ?_
  refine j_iconst (v := 1) 1 C dL_law_657 (by decide) ?_
  refine j_iadd C dL_law_658 ?_
  refine j_sld C hX dL_law_659 ?_
  refine j_zeq 667 C dL_law_660 (by decide) ?_ ?_
  · refine j_iconst (v := 0) 0 C dL_law_667 (by decide) ?_
    refine j_aload_n 0 C dL_law_668 rfl rfl ?_
    refine j_iload 5 C dL_law_669 rfl ?_
    refine j_iconst (v := 2) 2 C dL_law_671 (by decide) ?_
    refine j_iadd C dL_law_672 ?_
    refine j_sld C hX dL_law_673 ?_
    refine j_aload_n 3 C dL_law_674 rfl rfl ?_
    refine j_callWI [.ref (ea E 0), .int 0, .int (xs (x5 + 2).toNatClampNeg), .ref (ea E 100)] (conL_remove N 0 (xs (x5 + 2).toNatClampNeg)) C hT miL_remove msL_remove lkL_144 rfl rfl ⟨Nat.le_of_ble_eq_true rfl, Nat.le_of_ble_eq_true rfl, (by show k + 1 ≤ 601024; omega), (by show n + 6 ≤ 7293034; omega), Nat.le_of_ble_eq_true rfl⟩ dL_law_675 (fun r675 σ675 => ?_)
    refine j_istore [(6, .int r675), (0, .ref b), (1, .ref (ea E 0)), (2, .ref (ea E 84)), (3, .ref (ea E 100)), (4, .ref (ea E 101)), (5, .int x5)] C dL_law_678 (by decide) rfl ?_
    refine j_aload_n 3 C dL_law_680 rfl rfl ?_
    refine j_aload_n 1 C dL_law_681 rfl rfl ?_
    refine j_iload 6 C dL_law_682 rfl ?_
    refine j_iconst (v := 1) 1 C dL_law_684 (by decide) ?_
    refine j_iadd C dL_law_685 ?_
    refine j_sld C hX dL_law_686 ?_
    refine j_zeq 694 C dL_law_687 (by decide) ?_ ?_
    · refine j_iconst (v := 0) 0 C dL_law_694 (by decide) ?_
      refine j_aload_n 1 C dL_law_695 rfl rfl ?_
      refine j_iload 6 C dL_law_696 rfl ?_
      refine j_iconst (v := 2) 2 C dL_law_698 (by decide) ?_
      refine j_iadd C dL_law_699 ?_
      refine j_sld C hX dL_law_700 ?_
      refine j_callVI [.int 0, .int (xs (x5 + 2).toNatClampNeg)] (con6_remove N 0 (xs (x5 + 2).toNatClampNeg)) C mi6_remove mv6_remove lkL_147 (by decide) (ct_84 E _) rfl rfl rfl ⟨Nat.le_of_ble_eq_true rfl, Nat.le_of_ble_eq_true rfl, (by show k + 1 + 0 ≤ 601024; omega), (by show n + 6 + 0 ≤ 7293034; omega), Nat.le_of_ble_eq_true rfl⟩ dL_law_701 (fun r701 σ701 => ?_)
      refine j_istore [(7, .int r701), (6, .int r675), (0, .ref b), (1, .ref (ea E 0)), (2, .ref (ea E 84)), (3, .ref (ea E 100)), (4, .ref (ea E 101)), (5, .int x5)] C dL_law_704 (by decide) rfl ?_
      refine j_aload_n 4 C dL_law_706 rfl rfl ?_
      refine j_callVI [] (con6_thrown N) C mi6_thrown mv6_thrown lkL_126 (by decide) (ct_84 E _) rfl rfl rfl ⟨Nat.le_of_ble_eq_true rfl, Nat.le_of_ble_eq_true rfl, (by show k + 1 + 0 + 0 ≤ 601024; omega), (by show n + 6 + 0 + 0 ≤ 7293034; omega), Nat.le_of_ble_eq_true rfl⟩ dL_law_707 (fun r707 σ707 => ?_)
      refine j_iload 1 C dL_law_710 rfl ?_
      refine j_ieq 717 C dL_law_712 (by decide) ?_ ?_
      · refine j_iload 1 C dL_law_717 rfl ?_
        refine j_zne 734 C dL_law_719 (by decide) ?_ ?_
        · refine j_goto 2228 C dL_law_734 (by decide) ?_
          exact j_sub [2, 3, 4, 5, 6, 7] rfl (j_widen (by show k + 1 + 0 + 0 ≤ k + 3; omega) (by show n + 6 + 0 + 0 ≤ n + 18; omega) (HK σ707))
        · refine j_aload_n 5 C dL_law_722 rfl rfl ?_
          refine j_iconst (v := 0) 0 C dL_law_723 (by decide) ?_
          refine j_lald C dL_law_724 ?_
          refine j_iload 0 C dL_law_725 rfl ?_
          refine j_i2l C dL_law_727 ?_
          refine j_lceq 734 C dL_law_728 dL_law_729 (by decide) ?_ ?_
          · refine j_goto 2228 C dL_law_734 (by decide) ?_
            exact j_sub [2, 3, 4, 5, 6, 7] rfl (j_widen (by show k + 1 + 0 + 0 ≤ k + 3; omega) (by show n + 6 + 0 + 0 ≤ n + 18; omega) (HK σ707))
          · exact j_none
      · exact j_none
    · refine j_iconst (v := 1) 1 C dL_law_690 (by decide) ?_
      refine j_goto 695 C dL_law_691 (by decide) ?_
      refine j_aload_n 1 C dL_law_695 rfl rfl ?_
      refine j_iload 6 C dL_law_696 rfl ?_
      refine j_iconst (v := 2) 2 C dL_law_698 (by decide) ?_
      refine j_iadd C dL_law_699 ?_
      refine j_sld C hX dL_law_700 ?_
      refine j_callVI [.int 1, .int (xs (x5 + 2).toNatClampNeg)] (con6_remove N 1 (xs (x5 + 2).toNatClampNeg)) C mi6_remove mv6_remove lkL_147 (by decide) (ct_84 E _) rfl rfl rfl ⟨Nat.le_of_ble_eq_true rfl, Nat.le_of_ble_eq_true rfl, (by show k + 1 + 0 ≤ 601024; omega), (by show n + 6 + 0 ≤ 7293034; omega), Nat.le_of_ble_eq_true rfl⟩ dL_law_701 (fun r701 σ701 => ?_)
      refine j_istore [(7, .int r701), (6, .int r675), (0, .ref b), (1, .ref (ea E 0)), (2, .ref (ea E 84)), (3, .ref (ea E 100)), (4, .ref (ea E 101)), (5, .int x5)] C dL_law_704 (by decide) rfl ?_
      refine j_aload_n 4 C dL_law_706 rfl rfl ?_
      refine j_callVI [] (con6_thrown N) C mi6_thrown mv6_thrown lkL_126 (by decide) (ct_84 E _) rfl rfl rfl ⟨Nat.le_of_ble_eq_true rfl, Nat.le_of_ble_eq_true rfl, (by show k + 1 + 0 + 0 ≤ 601024; omega), (by show n + 6 + 0 + 0 ≤ 7293034; omega), Nat.le_of_ble_eq_true rfl⟩ dL_law_707 (fun r707 σ707 => ?_)
      refine j_iload 1 C dL_law_710 rfl ?_
      refine j_ieq 717 C dL_law_712 (by decide) ?_ ?_
      · refine j_iload 1 C dL_law_717 rfl ?_
        refine j_zne 734 C dL_law_719 (by decide) ?_ ?_
        · refine j_goto 2228 C dL_law_734 (by decide) ?_
          exact j_sub [2, 3, 4, 5, 6, 7] rfl (j_widen (by show k + 1 + 0 + 0 ≤ k + 3; omega) (by show n + 6 + 0 + 0 ≤ n + 18; omega) (HK σ707))
        · refine j_aload_n 5 C dL_law_722 rfl rfl ?_
          refine j_iconst (v := 0) 0 C dL_law_723 (by decide) ?_
          refine j_lald C dL_law_724 ?_
          refine j_iload 0 C dL_law_725 rfl ?_
          refine j_i2l C dL_law_727 ?_
          refine j_lceq 734 C dL_law_728 dL_law_729 (by decide) ?_ ?_
          · refine j_goto 2228 C dL_law_734 (by decide) ?_
            exact j_sub [2, 3, 4, 5, 6, 7] rfl (j_widen (by show k + 1 + 0 + 0 ≤ k + 3; omega) (by show n + 6 + 0 + 0 ≤ n + 18; omega) (HK σ707))
          · exact j_none
      · exact j_none
  · refine j_iconst (v := 1) 1 C dL_law_663 (by decide) ?_
    refine j_goto 668 C dL_law_664 (by decide) ?_
    refine j_aload_n 0 C dL_law_668 rfl rfl ?_
    refine j_iload 5 C dL_law_669 rfl ?_
    refine j_iconst (v := 2) 2 C dL_law_671 (by decide) ?_
    refine j_iadd C dL_law_672 ?_
    refine j_sld C hX dL_law_673 ?_
    refine j_aload_n 3 C dL_law_674 rfl rfl ?_
    refine j_callWI [.ref (ea E 0), .int 1, .int (xs (x5 + 2).toNatClampNeg), .ref (ea E 100)] (conL_remove N 1 (xs (x5 + 2).toNatClampNeg)) C hT miL_remove msL_remove lkL_144 rfl rfl ⟨Nat.le_of_ble_eq_true rfl, Nat.le_of_ble_eq_true rfl, (by show k + 1 ≤ 601024; omega), (by show n + 6 ≤ 7293034; omega), Nat.le_of_ble_eq_true rfl⟩ dL_law_675 (fun r675 σ675 => ?_)
    refine j_istore [(6, .int r675), (0, .ref b), (1, .ref (ea E 0)), (2, .ref (ea E 84)), (3, .ref (ea E 100)), (4, .ref (ea E 101)), (5, .int x5)] C dL_law_678 (by decide) rfl ?_
    refine j_aload_n 3 C dL_law_680 rfl rfl ?_
    refine j_aload_n 1 C dL_law_681 rfl rfl ?_
    refine j_iload 6 C dL_law_682 rfl ?_
    refine j_iconst (v := 1) 1 C dL_law_684 (by decide) ?_
    refine j_iadd C dL_law_685 ?_
    refine j_sld C hX dL_law_686 ?_
    refine j_zeq 694 C dL_law_687 (by decide) ?_ ?_
    · refine j_iconst (v := 0) 0 C dL_law_694 (by decide) ?_
      refine j_aload_n 1 C dL_law_695 rfl rfl ?_
      refine j_iload 6 C dL_law_696 rfl ?_
      refine j_iconst (v := 2) 2 C dL_law_698 (by decide) ?_
      refine j_iadd C dL_law_699 ?_
      refine j_sld C hX dL_law_700 ?_
      refine j_callVI [.int 0, .int (xs (x5 + 2).toNatClampNeg)] (con6_remove N 0 (xs (x5 + 2).toNatClampNeg)) C mi6_remove mv6_remove lkL_147 (by decide) (ct_84 E _) rfl rfl rfl ⟨Nat.le_of_ble_eq_true rfl, Nat.le_of_ble_eq_true rfl, (by show k + 1 + 0 ≤ 601024; omega), (by show n + 6 + 0 ≤ 7293034; omega), Nat.le_of_ble_eq_true rfl⟩ dL_law_701 (fun r701 σ701 => ?_)
      refine j_istore [(7, .int r701), (6, .int r675), (0, .ref b), (1, .ref (ea E 0)), (2, .ref (ea E 84)), (3, .ref (ea E 100)), (4, .ref (ea E 101)), (5, .int x5)] C dL_law_704 (by decide) rfl ?_
      refine j_aload_n 4 C dL_law_706 rfl rfl ?_
      refine j_callVI [] (con6_thrown N) C mi6_thrown mv6_thrown lkL_126 (by decide) (ct_84 E _) rfl rfl rfl ⟨Nat.le_of_ble_eq_true rfl, Nat.le_of_ble_eq_true rfl, (by show k + 1 + 0 + 0 ≤ 601024; omega), (by show n + 6 + 0 + 0 ≤ 7293034; omega), Nat.le_of_ble_eq_true rfl⟩ dL_law_707 (fun r707 σ707 => ?_)
      refine j_iload 1 C dL_law_710 rfl ?_
      refine j_ieq 717 C dL_law_712 (by decide) ?_ ?_
      · refine j_iload 1 C dL_law_717 rfl ?_
        refine j_zne 734 C dL_law_719 (by decide) ?_ ?_
        · refine j_goto 2228 C dL_law_734 (by decide) ?_
          exact j_sub [2, 3, 4, 5, 6, 7] rfl (j_widen (by show k + 1 + 0 + 0 ≤ k + 3; omega) (by show n + 6 + 0 + 0 ≤ n + 18; omega) (HK σ707))
        · refine j_aload_n 5 C dL_law_722 rfl rfl ?_
          refine j_iconst (v := 0) 0 C dL_law_723 (by decide) ?_
          refine j_lald C dL_law_724 ?_
          refine j_iload 0 C dL_law_725 rfl ?_
          refine j_i2l C dL_law_727 ?_
          refine j_lceq 734 C dL_law_728 dL_law_729 (by decide) ?_ ?_
          · refine j_goto 2228 C dL_law_734 (by decide) ?_
            exact j_sub [2, 3, 4, 5, 6, 7] rfl (j_widen (by show k + 1 + 0 + 0 ≤ k + 3; omega) (by show n + 6 + 0 + 0 ≤ n + 18; omega) (HK σ707))
          · exact j_none
      · exact j_none
    · refine j_iconst (v := 1) 1 C dL_law_690 (by decide) ?_
      refine j_goto 695 C dL_law_691 (by decide) ?_
      refine j_aload_n 1 C dL_law_695 rfl rfl ?_
      refine j_iload 6 C dL_law_696 rfl ?_
      refine j_iconst (v := 2) 2 C dL_law_698 (by decide) ?_
      refine j_iadd C dL_law_699 ?_
      refine j_sld C hX dL_law_700 ?_
      refine j_callVI [.int 1, .int (xs (x5 + 2).toNatClampNeg)] (con6_remove N 1 (xs (x5 + 2).toNatClampNeg)) C mi6_remove mv6_remove lkL_147 (by decide) (ct_84 E _) rfl rfl rfl ⟨Nat.le_of_ble_eq_true rfl, Nat.le_of_ble_eq_true rfl, (by show k + 1 + 0 ≤ 601024; omega), (by show n + 6 + 0 ≤ 7293034; omega), Nat.le_of_ble_eq_true rfl⟩ dL_law_701 (fun r701 σ701 => ?_)
      refine j_istore [(7, .int r701), (6, .int r675), (0, .ref b), (1, .ref (ea E 0)), (2, .ref (ea E 84)), (3, .ref (ea E 100)), (4, .ref (ea E 101)), (5, .int x5)] C dL_law_704 (by decide) rfl ?_
      refine j_aload_n 4 C dL_law_706 rfl rfl ?_
      refine j_callVI [] (con6_thrown N) C mi6_thrown mv6_thrown lkL_126 (by decide) (ct_84 E _) rfl rfl rfl ⟨Nat.le_of_ble_eq_true rfl, Nat.le_of_ble_eq_true rfl, (by show k + 1 + 0 + 0 ≤ 601024; omega), (by show n + 6 + 0 + 0 ≤ 7293034; omega), Nat.le_of_ble_eq_true rfl⟩ dL_law_707 (fun r707 σ707 => ?_)
      refine j_iload 1 C dL_law_710 rfl ?_
      refine j_ieq 717 C dL_law_712 (by decide) ?_ ?_
      · refine j_iload 1 C dL_law_717 rfl ?_
        refine j_zne 734 C dL_law_719 (by decide) ?_ ?_
        · refine j_goto 2228 C dL_law_734 (by decide) ?_
          exact j_sub [2, 3, 4, 5, 6, 7] rfl (j_widen (by show k + 1 + 0 + 0 ≤ k + 3; omega) (by show n + 6 + 0 + 0 ≤ n + 18; omega) (HK σ707))
        · refine j_aload_n 5 C dL_law_722 rfl rfl ?_
          refine j_iconst (v := 0) 0 C dL_law_723 (by decide) ?_
          refine j_lald C dL_law_724 ?_
          refine j_iload 0 C dL_law_725 rfl ?_
          refine j_i2l C dL_law_727 ?_
          refine j_lceq 734 C dL_law_728 dL_law_729 (by decide) ?_ ?_
          · refine j_goto 2228 C dL_law_734 (by decide) ?_
            exact j_sub [2, 3, 4, 5, 6, 7] rfl (j_widen (by show k + 1 + 0 + 0 ≤ k + 3; omega) (by show n + 6 + 0 + 0 ≤ n + 18; omega) (HK σ707))
          · exact j_none
      · exact j_none
set_option maxHeartbeats 4000000 in
set_option maxRecDepth 100000 in
theorem wcase6 {ρ : Type} {E : En} {p : Program} {l : Launch} {e : Env} {s : State} {m : MethodId} {args : Array Value} {below : List Frame} {meth : Method} {c : Code} {Q : ρ → State → Prop} {b Ls k n : Nat} {xs : Nat → Int32} (N : Nat) (C : Cx E 9 p s m args c code RL) (hT : l.stackTraces = false) (hX : Sc E s b Ls xs) (hk : k + 3 ≤ 601024) (hn : n + 18 ≤ 7293034) (x5 : Int32) (K : Hp → Option ρ) (HK : ∀ σ, J E 9 p l e room_1 s m args below meth c Q (K σ) 2228 [(0, .ref b), (1, .ref (ea E 0)), (2, .ref (ea E 84)), (3, .ref (ea E 100)), (4, .ref (ea E 101)), (5, .int x5)] [] σ (k + 3) (n + 18)) (σ : Hp) : J E 9 p l e room_1 s m args below meth c Q (fL_case6 N xs Ls x5 K σ) 737 [(0, .ref b), (1, .ref (ea E 0)), (2, .ref (ea E 84)), (3, .ref (ea E 100)), (4, .ref (ea E 101)), (5, .int x5)] [] σ k n := by
  unfold fL_case6
  refine j_aload_n 1 C dL_law_737 rfl rfl ?_
  refine j_aload_n 0 C dL_law_738 rfl rfl ?_
  refine j_iload 5 C dL_law_739 rfl ?_
  refine j_iconst (v := 1) 1 C dL_law_741 (by decide) ?_
  refine j_iadd C dL_law_742 ?_
  refine j_sld C hX dL_law_743 ?_
  refine j_aload_n 0 C dL_law_744 rfl rfl ?_
  refine j_iload 5 C dL_law_745 rfl ?_
  refine j_iconst (v := 2) 2 C dL_law_747 (by decide) ?_
  refine j_iadd C dL_law_748 ?_
  refine j_sld C hX dL_law_749 ?_
  refine j_aload_n 3 C dL_law_750 rfl rfl ?_
  refine j_callWI [.ref (ea E 0), .int (xs (x5 + 1).toNatClampNeg), .int (xs (x5 + 2).toNatClampNeg), .ref (ea E 100)] (conL_story N (xs (x5 + 1).toNatClampNeg) (xs (x5 + 2).toNatClampNeg)) C hT miL_story msL_story lkL_148 rfl rfl ⟨Nat.le_of_ble_eq_true rfl, Nat.le_of_ble_eq_true rfl, (by show k + 2 ≤ 601024; omega), (by show n + 12 ≤ 7293034; omega), Nat.le_of_ble_eq_true rfl⟩ dL_law_751 (fun r751 σ751 => ?_)
  refine j_istore [(6, .int r751), (0, .ref b), (1, .ref (ea E 0)), (2, .ref (ea E 84)), (3, .ref (ea E 100)), (4, .ref (ea E 101)), (5, .int x5)] C dL_law_754 (by decide) rfl ?_
  refine j_aload_n 3 C dL_law_756 rfl rfl ?_
  refine j_aload_n 1 C dL_law_757 rfl rfl ?_
  refine j_iload 6 C dL_law_758 rfl ?_
  refine j_iconst (v := 1) 1 C dL_law_760 (by decide) ?_
  refine j_iadd C dL_law_761 ?_
  refine j_sld C hX dL_law_762 ?_
  refine j_aload_n 1 C dL_law_763 rfl rfl ?_
  refine j_iload 6 C dL_law_764 rfl ?_
  refine j_iconst (v := 2) 2 C dL_law_766 (by decide) ?_
  refine j_iadd C dL_law_767 ?_
  refine j_sld C hX dL_law_768 ?_
  refine j_callVI [.int (xs (x5 + 1).toNatClampNeg), .int (xs (x5 + 2).toNatClampNeg)] (con6_story N (xs (x5 + 1).toNatClampNeg) (xs (x5 + 2).toNatClampNeg)) C mi6_story mv6_story lkL_151 (by decide) (ct_84 E _) rfl rfl rfl ⟨Nat.le_of_ble_eq_true rfl, Nat.le_of_ble_eq_true rfl, (by show k + 2 + 0 ≤ 601024; omega), (by show n + 12 + 0 ≤ 7293034; omega), Nat.le_of_ble_eq_true rfl⟩ dL_law_769 (fun r769 σ769 => ?_)
  refine j_istore [(7, .int r769), (6, .int r751), (0, .ref b), (1, .ref (ea E 0)), (2, .ref (ea E 84)), (3, .ref (ea E 100)), (4, .ref (ea E 101)), (5, .int x5)] C dL_law_772 (by decide) rfl ?_
  refine j_aload_n 4 C dL_law_774 rfl rfl ?_
  refine j_callVI [] (con6_thrown N) C mi6_thrown mv6_thrown lkL_126 (by decide) (ct_84 E _) rfl rfl rfl ⟨Nat.le_of_ble_eq_true rfl, Nat.le_of_ble_eq_true rfl, (by show k + 2 + 0 + 0 ≤ 601024; omega), (by show n + 12 + 0 + 0 ≤ 7293034; omega), Nat.le_of_ble_eq_true rfl⟩ dL_law_775 (fun r775 σ775 => ?_)
  refine j_iload 1 C dL_law_778 rfl ?_
  refine j_ieq 785 C dL_law_780 (by decide) ?_ ?_
  · refine j_iload 1 C dL_law_785 rfl ?_
    refine j_zne 802 C dL_law_787 (by decide) ?_ ?_
    · refine j_goto 2228 C dL_law_802 (by decide) ?_
      exact j_sub [2, 3, 4, 5, 6, 7] rfl (j_widen (by show k + 2 + 0 + 0 ≤ k + 3; omega) (by show n + 12 + 0 + 0 ≤ n + 18; omega) (HK σ775))
    · refine j_aload_n 5 C dL_law_790 rfl rfl ?_
      refine j_iconst (v := 0) 0 C dL_law_791 (by decide) ?_
      refine j_lald C dL_law_792 ?_
      refine j_iload 0 C dL_law_793 rfl ?_
      refine j_i2l C dL_law_795 ?_
      refine j_lceq 802 C dL_law_796 dL_law_797 (by decide) ?_ ?_
      · refine j_goto 2228 C dL_law_802 (by decide) ?_
        exact j_sub [2, 3, 4, 5, 6, 7] rfl (j_widen (by show k + 2 + 0 + 0 ≤ k + 3; omega) (by show n + 12 + 0 + 0 ≤ n + 18; omega) (HK σ775))
      · exact j_none
  · exact j_none
set_option maxHeartbeats 4000000 in
set_option maxRecDepth 100000 in
theorem wcase7 {ρ : Type} {E : En} {p : Program} {l : Launch} {e : Env} {s : State} {m : MethodId} {args : Array Value} {below : List Frame} {meth : Method} {c : Code} {Q : ρ → State → Prop} {b Ls k n : Nat} {xs : Nat → Int32} (N : Nat) (C : Cx E 9 p s m args c code RL) (hT : l.stackTraces = false) (hX : Sc E s b Ls xs) (hk : k + 3 ≤ 601024) (hn : n + 18 ≤ 7293034) (x5 : Int32) (K : Hp → Option ρ) (HK : ∀ σ, J E 9 p l e room_1 s m args below meth c Q (K σ) 2228 [(0, .ref b), (1, .ref (ea E 0)), (2, .ref (ea E 84)), (3, .ref (ea E 100)), (4, .ref (ea E 101)), (5, .int x5)] [] σ (k + 3) (n + 18)) (σ : Hp) : J E 9 p l e room_1 s m args below meth c Q (fL_case7 N xs Ls x5 K σ) 805 [(0, .ref b), (1, .ref (ea E 0)), (2, .ref (ea E 84)), (3, .ref (ea E 100)), (4, .ref (ea E 101)), (5, .int x5)] [] σ k n := by
  unfold fL_case7
  refine j_aload_n 1 C dL_law_805 rfl rfl ?_
  refine j_aload_n 0 C dL_law_806 rfl rfl ?_
  refine j_iload 5 C dL_law_807 rfl ?_
  refine j_iconst (v := 1) 1 C dL_law_809 (by decide) ?_
  refine j_iadd C dL_law_810 ?_
  refine j_sld C hX dL_law_811 ?_
  refine j_aload_n 0 C dL_law_812 rfl rfl ?_
  refine j_iload 5 C dL_law_813 rfl ?_
  refine j_iconst (v := 2) 2 C dL_law_815 (by decide) ?_
  refine j_iadd C dL_law_816 ?_
  refine j_sld C hX dL_law_817 ?_
  refine j_aload_n 3 C dL_law_818 rfl rfl ?_
  refine j_callWI [.ref (ea E 0), .int (xs (x5 + 1).toNatClampNeg), .int (xs (x5 + 2).toNatClampNeg), .ref (ea E 100)] (conL_advertisement N (xs (x5 + 1).toNatClampNeg) (xs (x5 + 2).toNatClampNeg)) C hT miL_advertisement msL_advertisement lkL_152 rfl rfl ⟨Nat.le_of_ble_eq_true rfl, Nat.le_of_ble_eq_true rfl, (by show k + 2 ≤ 601024; omega), (by show n + 12 ≤ 7293034; omega), Nat.le_of_ble_eq_true rfl⟩ dL_law_819 (fun r819 σ819 => ?_)
  refine j_istore [(6, .int r819), (0, .ref b), (1, .ref (ea E 0)), (2, .ref (ea E 84)), (3, .ref (ea E 100)), (4, .ref (ea E 101)), (5, .int x5)] C dL_law_822 (by decide) rfl ?_
  refine j_aload_n 3 C dL_law_824 rfl rfl ?_
  refine j_aload_n 1 C dL_law_825 rfl rfl ?_
  refine j_iload 6 C dL_law_826 rfl ?_
  refine j_iconst (v := 1) 1 C dL_law_828 (by decide) ?_
  refine j_iadd C dL_law_829 ?_
  refine j_sld C hX dL_law_830 ?_
  refine j_aload_n 1 C dL_law_831 rfl rfl ?_
  refine j_iload 6 C dL_law_832 rfl ?_
  refine j_iconst (v := 2) 2 C dL_law_834 (by decide) ?_
  refine j_iadd C dL_law_835 ?_
  refine j_sld C hX dL_law_836 ?_
  refine j_callVI [.int (xs (x5 + 1).toNatClampNeg), .int (xs (x5 + 2).toNatClampNeg)] (con6_advertisement N (xs (x5 + 1).toNatClampNeg) (xs (x5 + 2).toNatClampNeg)) C mi6_advertisement mv6_advertisement lkL_154 (by decide) (ct_84 E _) rfl rfl rfl ⟨Nat.le_of_ble_eq_true rfl, Nat.le_of_ble_eq_true rfl, (by show k + 2 + 0 ≤ 601024; omega), (by show n + 12 + 0 ≤ 7293034; omega), Nat.le_of_ble_eq_true rfl⟩ dL_law_837 (fun r837 σ837 => ?_)
  refine j_istore [(7, .int r837), (6, .int r819), (0, .ref b), (1, .ref (ea E 0)), (2, .ref (ea E 84)), (3, .ref (ea E 100)), (4, .ref (ea E 101)), (5, .int x5)] C dL_law_840 (by decide) rfl ?_
  refine j_aload_n 4 C dL_law_842 rfl rfl ?_
  refine j_callVI [] (con6_thrown N) C mi6_thrown mv6_thrown lkL_126 (by decide) (ct_84 E _) rfl rfl rfl ⟨Nat.le_of_ble_eq_true rfl, Nat.le_of_ble_eq_true rfl, (by show k + 2 + 0 + 0 ≤ 601024; omega), (by show n + 12 + 0 + 0 ≤ 7293034; omega), Nat.le_of_ble_eq_true rfl⟩ dL_law_843 (fun r843 σ843 => ?_)
  refine j_iload 1 C dL_law_846 rfl ?_
  refine j_ieq 853 C dL_law_848 (by decide) ?_ ?_
  · refine j_iload 1 C dL_law_853 rfl ?_
    refine j_zne 870 C dL_law_855 (by decide) ?_ ?_
    · refine j_goto 2228 C dL_law_870 (by decide) ?_
      exact j_sub [2, 3, 4, 5, 6, 7] rfl (j_widen (by show k + 2 + 0 + 0 ≤ k + 3; omega) (by show n + 12 + 0 + 0 ≤ n + 18; omega) (HK σ843))
    · refine j_aload_n 5 C dL_law_858 rfl rfl ?_
      refine j_iconst (v := 0) 0 C dL_law_859 (by decide) ?_
      refine j_lald C dL_law_860 ?_
      refine j_iload 0 C dL_law_861 rfl ?_
      refine j_i2l C dL_law_863 ?_
      refine j_lceq 870 C dL_law_864 dL_law_865 (by decide) ?_ ?_
      · refine j_goto 2228 C dL_law_870 (by decide) ?_
        exact j_sub [2, 3, 4, 5, 6, 7] rfl (j_widen (by show k + 2 + 0 + 0 ≤ k + 3; omega) (by show n + 12 + 0 + 0 ≤ n + 18; omega) (HK σ843))
      · exact j_none
  · exact j_none
set_option maxHeartbeats 4000000 in
set_option maxRecDepth 100000 in
theorem wcase8 {ρ : Type} {E : En} {p : Program} {l : Launch} {e : Env} {s : State} {m : MethodId} {args : Array Value} {below : List Frame} {meth : Method} {c : Code} {Q : ρ → State → Prop} {b Ls k n : Nat} {xs : Nat → Int32} (N : Nat) (C : Cx E 9 p s m args c code RL) (hT : l.stackTraces = false) (hX : Sc E s b Ls xs) (hk : k + 3 ≤ 601024) (hn : n + 18 ≤ 7293034) (x5 : Int32) (K : Hp → Option ρ) (HK : ∀ σ, J E 9 p l e room_1 s m args below meth c Q (K σ) 2228 [(0, .ref b), (1, .ref (ea E 0)), (2, .ref (ea E 84)), (3, .ref (ea E 100)), (4, .ref (ea E 101)), (5, .int x5)] [] σ (k + 3) (n + 18)) (σ : Hp) : J E 9 p l e room_1 s m args below meth c Q (fL_case8 N xs Ls x5 K σ) 873 [(0, .ref b), (1, .ref (ea E 0)), (2, .ref (ea E 84)), (3, .ref (ea E 100)), (4, .ref (ea E 101)), (5, .int x5)] [] σ k n := by
  unfold fL_case8
  refine j_aload_n 1 C dL_law_873 rfl rfl ?_
  refine j_aload_n 0 C dL_law_874 rfl rfl ?_
  refine j_iload 5 C dL_law_875 rfl ?_
  refine j_iconst (v := 1) 1 C dL_law_877 (by decide) ?_
  refine j_iadd C dL_law_878 ?_
  refine j_sld C hX dL_law_879 ?_
  refine j_aload_n 0 C dL_law_880 rfl rfl ?_
  refine j_iload 5 C dL_law_881 rfl ?_
  refine j_iconst (v := 2) 2 C dL_law_883 (by decide) ?_
  refine j_iadd C dL_law_884 ?_
  refine j_sld C hX dL_law_885 ?_
  refine j_aload_n 0 C dL_law_886 rfl rfl ?_
  refine j_iload 5 C dL_law_887 rfl ?_
  refine j_iconst (v := 3) 3 C dL_law_889 (by decide) ?_
  refine j_iadd C dL_law_890 ?_
  refine j_sld C hX dL_law_891 ?_
  refine j_aload_n 3 C dL_law_892 rfl rfl ?_
  refine j_callWI [.ref (ea E 0), .int (xs (x5 + 1).toNatClampNeg), .int (xs (x5 + 2).toNatClampNeg), .int (xs (x5 + 3).toNatClampNeg), .ref (ea E 100)] (conL_cell N (xs (x5 + 1).toNatClampNeg) (xs (x5 + 2).toNatClampNeg) (xs (x5 + 3).toNatClampNeg)) C hT miL_cell msL_cell lkL_155 rfl rfl ⟨Nat.le_of_ble_eq_true rfl, Nat.le_of_ble_eq_true rfl, (by show k + 1 ≤ 601024; omega), (by show n + 6 ≤ 7293034; omega), Nat.le_of_ble_eq_true rfl⟩ dL_law_893 (fun r893 σ893 => ?_)
  refine j_istore [(6, .int r893), (0, .ref b), (1, .ref (ea E 0)), (2, .ref (ea E 84)), (3, .ref (ea E 100)), (4, .ref (ea E 101)), (5, .int x5)] C dL_law_896 (by decide) rfl ?_
  refine j_aload_n 3 C dL_law_898 rfl rfl ?_
  refine j_aload_n 1 C dL_law_899 rfl rfl ?_
  refine j_iload 6 C dL_law_900 rfl ?_
  refine j_iconst (v := 1) 1 C dL_law_902 (by decide) ?_
  refine j_iadd C dL_law_903 ?_
  refine j_sld C hX dL_law_904 ?_
  refine j_aload_n 1 C dL_law_905 rfl rfl ?_
  refine j_iload 6 C dL_law_906 rfl ?_
  refine j_iconst (v := 2) 2 C dL_law_908 (by decide) ?_
  refine j_iadd C dL_law_909 ?_
  refine j_sld C hX dL_law_910 ?_
  refine j_aload_n 1 C dL_law_911 rfl rfl ?_
  refine j_iload 6 C dL_law_912 rfl ?_
  refine j_iconst (v := 3) 3 C dL_law_914 (by decide) ?_
  refine j_iadd C dL_law_915 ?_
  refine j_sld C hX dL_law_916 ?_
  refine j_callVI [.int (xs (x5 + 1).toNatClampNeg), .int (xs (x5 + 2).toNatClampNeg), .int (xs (x5 + 3).toNatClampNeg)] (con6_cell N (xs (x5 + 1).toNatClampNeg) (xs (x5 + 2).toNatClampNeg) (xs (x5 + 3).toNatClampNeg)) C mi6_cell mv6_cell lkL_157 (by decide) (ct_84 E _) rfl rfl rfl ⟨Nat.le_of_ble_eq_true rfl, Nat.le_of_ble_eq_true rfl, (by show k + 1 + 0 ≤ 601024; omega), (by show n + 6 + 0 ≤ 7293034; omega), Nat.le_of_ble_eq_true rfl⟩ dL_law_917 (fun r917 σ917 => ?_)
  refine j_istore [(7, .int r917), (6, .int r893), (0, .ref b), (1, .ref (ea E 0)), (2, .ref (ea E 84)), (3, .ref (ea E 100)), (4, .ref (ea E 101)), (5, .int x5)] C dL_law_920 (by decide) rfl ?_
  refine j_aload_n 4 C dL_law_922 rfl rfl ?_
  refine j_callVI [] (con6_thrown N) C mi6_thrown mv6_thrown lkL_126 (by decide) (ct_84 E _) rfl rfl rfl ⟨Nat.le_of_ble_eq_true rfl, Nat.le_of_ble_eq_true rfl, (by show k + 1 + 0 + 0 ≤ 601024; omega), (by show n + 6 + 0 + 0 ≤ 7293034; omega), Nat.le_of_ble_eq_true rfl⟩ dL_law_923 (fun r923 σ923 => ?_)
  refine j_iload 1 C dL_law_926 rfl ?_
  refine j_ieq 933 C dL_law_928 (by decide) ?_ ?_
  · refine j_iload 1 C dL_law_933 rfl ?_
    refine j_zne 950 C dL_law_935 (by decide) ?_ ?_
    · refine j_goto 2228 C dL_law_950 (by decide) ?_
      exact j_sub [2, 3, 4, 5, 6, 7] rfl (j_widen (by show k + 1 + 0 + 0 ≤ k + 3; omega) (by show n + 6 + 0 + 0 ≤ n + 18; omega) (HK σ923))
    · refine j_aload_n 5 C dL_law_938 rfl rfl ?_
      refine j_iconst (v := 0) 0 C dL_law_939 (by decide) ?_
      refine j_lald C dL_law_940 ?_
      refine j_iload 0 C dL_law_941 rfl ?_
      refine j_i2l C dL_law_943 ?_
      refine j_lceq 950 C dL_law_944 dL_law_945 (by decide) ?_ ?_
      · refine j_goto 2228 C dL_law_950 (by decide) ?_
        exact j_sub [2, 3, 4, 5, 6, 7] rfl (j_widen (by show k + 1 + 0 + 0 ≤ k + 3; omega) (by show n + 6 + 0 + 0 ≤ n + 18; omega) (HK σ923))
      · exact j_none
  · exact j_none
set_option maxHeartbeats 4000000 in
set_option maxRecDepth 100000 in
theorem wcase9 {ρ : Type} {E : En} {p : Program} {l : Launch} {e : Env} {s : State} {m : MethodId} {args : Array Value} {below : List Frame} {meth : Method} {c : Code} {Q : ρ → State → Prop} {b Ls k n : Nat} {xs : Nat → Int32} (N : Nat) (C : Cx E 9 p s m args c code RL) (hT : l.stackTraces = false) (hX : Sc E s b Ls xs) (hk : k + 3 ≤ 601024) (hn : n + 18 ≤ 7293034) (x5 : Int32) (K : Hp → Option ρ) (HK : ∀ σ, J E 9 p l e room_1 s m args below meth c Q (K σ) 2228 [(0, .ref b), (1, .ref (ea E 0)), (2, .ref (ea E 84)), (3, .ref (ea E 100)), (4, .ref (ea E 101)), (5, .int x5)] [] σ (k + 3) (n + 18)) (σ : Hp) : J E 9 p l e room_1 s m args below meth c Q (fL_case9 N xs Ls x5 K σ) 953 [(0, .ref b), (1, .ref (ea E 0)), (2, .ref (ea E 84)), (3, .ref (ea E 100)), (4, .ref (ea E 101)), (5, .int x5)] [] σ k n := by
  unfold fL_case9
  refine j_aload_n 1 C dL_law_953 rfl rfl ?_
  refine j_aload_n 0 C dL_law_954 rfl rfl ?_
  refine j_iload 5 C dL_law_955 rfl ?_
  refine j_iconst (v := 1) 1 C dL_law_957 (by decide) ?_
  refine j_iadd C dL_law_958 ?_
  refine j_sld C hX dL_law_959 ?_
  refine j_aload_n 0 C dL_law_960 rfl rfl ?_
  refine j_iload 5 C dL_law_961 rfl ?_
  refine j_iconst (v := 2) 2 C dL_law_963 (by decide) ?_
  refine j_iadd C dL_law_964 ?_
  refine j_sld C hX dL_law_965 ?_
  refine j_aload_n 0 C dL_law_966 rfl rfl ?_
  refine j_iload 5 C dL_law_967 rfl ?_
  refine j_iconst (v := 3) 3 C dL_law_969 (by decide) ?_
  refine j_iadd C dL_law_970 ?_
  refine j_sld C hX dL_law_971 ?_
  refine j_aload_n 3 C dL_law_972 rfl rfl ?_
  refine j_callWI [.ref (ea E 0), .int (xs (x5 + 1).toNatClampNeg), .int (xs (x5 + 2).toNatClampNeg), .int (xs (x5 + 3).toNatClampNeg), .ref (ea E 100)] (conL_owner N (xs (x5 + 1).toNatClampNeg) (xs (x5 + 2).toNatClampNeg) (xs (x5 + 3).toNatClampNeg)) C hT miL_owner msL_owner lkL_158 rfl rfl ⟨Nat.le_of_ble_eq_true rfl, Nat.le_of_ble_eq_true rfl, (by show k + 2 ≤ 601024; omega), (by show n + 12 ≤ 7293034; omega), Nat.le_of_ble_eq_true rfl⟩ dL_law_973 (fun r973 σ973 => ?_)
  refine j_istore [(6, .int r973), (0, .ref b), (1, .ref (ea E 0)), (2, .ref (ea E 84)), (3, .ref (ea E 100)), (4, .ref (ea E 101)), (5, .int x5)] C dL_law_976 (by decide) rfl ?_
  refine j_aload_n 3 C dL_law_978 rfl rfl ?_
  refine j_aload_n 1 C dL_law_979 rfl rfl ?_
  refine j_iload 6 C dL_law_980 rfl ?_
  refine j_iconst (v := 1) 1 C dL_law_982 (by decide) ?_
  refine j_iadd C dL_law_983 ?_
  refine j_sld C hX dL_law_984 ?_
  refine j_aload_n 1 C dL_law_985 rfl rfl ?_
  refine j_iload 6 C dL_law_986 rfl ?_
  refine j_iconst (v := 2) 2 C dL_law_988 (by decide) ?_
  refine j_iadd C dL_law_989 ?_
  refine j_sld C hX dL_law_990 ?_
  refine j_aload_n 1 C dL_law_991 rfl rfl ?_
  refine j_iload 6 C dL_law_992 rfl ?_
  refine j_iconst (v := 3) 3 C dL_law_994 (by decide) ?_
  refine j_iadd C dL_law_995 ?_
  refine j_sld C hX dL_law_996 ?_
  refine j_callVI [.int (xs (x5 + 1).toNatClampNeg), .int (xs (x5 + 2).toNatClampNeg), .int (xs (x5 + 3).toNatClampNeg)] (con6_owner N (xs (x5 + 1).toNatClampNeg) (xs (x5 + 2).toNatClampNeg) (xs (x5 + 3).toNatClampNeg)) C mi6_owner mv6_owner lkL_160 (by decide) (ct_84 E _) rfl rfl rfl ⟨Nat.le_of_ble_eq_true rfl, Nat.le_of_ble_eq_true rfl, (by show k + 2 + 0 ≤ 601024; omega), (by show n + 12 + 0 ≤ 7293034; omega), Nat.le_of_ble_eq_true rfl⟩ dL_law_997 (fun r997 σ997 => ?_)
  refine j_istore [(7, .int r997), (6, .int r973), (0, .ref b), (1, .ref (ea E 0)), (2, .ref (ea E 84)), (3, .ref (ea E 100)), (4, .ref (ea E 101)), (5, .int x5)] C dL_law_1000 (by decide) rfl ?_
  refine j_aload_n 4 C dL_law_1002 rfl rfl ?_
  refine j_callVI [] (con6_thrown N) C mi6_thrown mv6_thrown lkL_126 (by decide) (ct_84 E _) rfl rfl rfl ⟨Nat.le_of_ble_eq_true rfl, Nat.le_of_ble_eq_true rfl, (by show k + 2 + 0 + 0 ≤ 601024; omega), (by show n + 12 + 0 + 0 ≤ 7293034; omega), Nat.le_of_ble_eq_true rfl⟩ dL_law_1003 (fun r1003 σ1003 => ?_)
  refine j_iload 1 C dL_law_1006 rfl ?_
  refine j_ieq 1013 C dL_law_1008 (by decide) ?_ ?_
  · refine j_iload 1 C dL_law_1013 rfl ?_
    refine j_zne 1030 C dL_law_1015 (by decide) ?_ ?_
    · refine j_goto 2228 C dL_law_1030 (by decide) ?_
      exact j_sub [2, 3, 4, 5, 6, 7] rfl (j_widen (by show k + 2 + 0 + 0 ≤ k + 3; omega) (by show n + 12 + 0 + 0 ≤ n + 18; omega) (HK σ1003))
    · refine j_aload_n 5 C dL_law_1018 rfl rfl ?_
      refine j_iconst (v := 0) 0 C dL_law_1019 (by decide) ?_
      refine j_lald C dL_law_1020 ?_
      refine j_iload 0 C dL_law_1021 rfl ?_
      refine j_i2l C dL_law_1023 ?_
      refine j_lceq 1030 C dL_law_1024 dL_law_1025 (by decide) ?_ ?_
      · refine j_goto 2228 C dL_law_1030 (by decide) ?_
        exact j_sub [2, 3, 4, 5, 6, 7] rfl (j_widen (by show k + 2 + 0 + 0 ≤ k + 3; omega) (by show n + 12 + 0 + 0 ≤ n + 18; omega) (HK σ1003))
      · exact j_none
  · exact j_none
set_option maxHeartbeats 4000000 in
set_option maxRecDepth 100000 in
theorem wcase10 {ρ : Type} {E : En} {p : Program} {l : Launch} {e : Env} {s : State} {m : MethodId} {args : Array Value} {below : List Frame} {meth : Method} {c : Code} {Q : ρ → State → Prop} {b Ls k n : Nat} {xs : Nat → Int32} (N : Nat) (C : Cx E 9 p s m args c code RL) (hT : l.stackTraces = false) (hX : Sc E s b Ls xs) (hk : k + 3 ≤ 601024) (hn : n + 18 ≤ 7293034) (x5 : Int32) (K : Hp → Option ρ) (HK : ∀ σ, J E 9 p l e room_1 s m args below meth c Q (K σ) 2228 [(0, .ref b), (1, .ref (ea E 0)), (2, .ref (ea E 84)), (3, .ref (ea E 100)), (4, .ref (ea E 101)), (5, .int x5)] [] σ (k + 3) (n + 18)) (σ : Hp) : J E 9 p l e room_1 s m args below meth c Q (fL_case10 N xs Ls x5 K σ) 1033 [(0, .ref b), (1, .ref (ea E 0)), (2, .ref (ea E 84)), (3, .ref (ea E 100)), (4, .ref (ea E 101)), (5, .int x5)] [] σ k n := by
  unfold fL_case10
  refine j_aload_n 1 C dL_law_1033 rfl rfl ?_
  refine j_aload_n 0 C dL_law_1034 rfl rfl ?_
  refine j_iload 5 C dL_law_1035 rfl ?_
  refine j_iconst (v := 1) 1 C dL_law_1037 (by decide) ?_
  refine j_iadd C dL_law_1038 ?_
  refine j_sld C hX dL_law_1039 ?_
  refine j_aload_n 0 C dL_law_1040 rfl rfl ?_
  refine j_iload 5 C dL_law_1041 rfl ?_
  refine j_iconst (v := 2) 2 C dL_law_1043 (by decide) ?_
  refine j_iadd C dL_law_1044 ?_
  refine j_sld C hX dL_law_1045 ?_
  refine j_aload_n 0 C dL_law_1046 rfl rfl ?_
  refine j_iload 5 C dL_law_1047 rfl ?_
  refine j_iconst (v := 3) 3 C dL_law_1049 (by decide) ?_
  refine j_iadd C dL_law_1050 ?_
  refine j_sld C hX dL_law_1051 ?_
  refine j_aload_n 3 C dL_law_1052 rfl rfl ?_
  refine j_callWI [.ref (ea E 0), .int (xs (x5 + 1).toNatClampNeg), .int (xs (x5 + 2).toNatClampNeg), .int (xs (x5 + 3).toNatClampNeg), .ref (ea E 100)] (conL_part N (xs (x5 + 1).toNatClampNeg) (xs (x5 + 2).toNatClampNeg) (xs (x5 + 3).toNatClampNeg)) C hT miL_part msL_part lkL_161 rfl rfl ⟨Nat.le_of_ble_eq_true rfl, Nat.le_of_ble_eq_true rfl, (by show k + 2 ≤ 601024; omega), (by show n + 12 ≤ 7293034; omega), Nat.le_of_ble_eq_true rfl⟩ dL_law_1053 (fun r1053 σ1053 => ?_)
  refine j_istore [(6, .int r1053), (0, .ref b), (1, .ref (ea E 0)), (2, .ref (ea E 84)), (3, .ref (ea E 100)), (4, .ref (ea E 101)), (5, .int x5)] C dL_law_1056 (by decide) rfl ?_
  refine j_aload_n 3 C dL_law_1058 rfl rfl ?_
  refine j_aload_n 1 C dL_law_1059 rfl rfl ?_
  refine j_iload 6 C dL_law_1060 rfl ?_
  refine j_iconst (v := 1) 1 C dL_law_1062 (by decide) ?_
  refine j_iadd C dL_law_1063 ?_
  refine j_sld C hX dL_law_1064 ?_
  refine j_aload_n 1 C dL_law_1065 rfl rfl ?_
  refine j_iload 6 C dL_law_1066 rfl ?_
  refine j_iconst (v := 2) 2 C dL_law_1068 (by decide) ?_
  refine j_iadd C dL_law_1069 ?_
  refine j_sld C hX dL_law_1070 ?_
  refine j_aload_n 1 C dL_law_1071 rfl rfl ?_
  refine j_iload 6 C dL_law_1072 rfl ?_
  refine j_iconst (v := 3) 3 C dL_law_1074 (by decide) ?_
  refine j_iadd C dL_law_1075 ?_
  refine j_sld C hX dL_law_1076 ?_
  refine j_callVI [.int (xs (x5 + 1).toNatClampNeg), .int (xs (x5 + 2).toNatClampNeg), .int (xs (x5 + 3).toNatClampNeg)] (con6_part N (xs (x5 + 1).toNatClampNeg) (xs (x5 + 2).toNatClampNeg) (xs (x5 + 3).toNatClampNeg)) C mi6_part mv6_part lkL_163 (by decide) (ct_84 E _) rfl rfl rfl ⟨Nat.le_of_ble_eq_true rfl, Nat.le_of_ble_eq_true rfl, (by show k + 2 + 0 ≤ 601024; omega), (by show n + 12 + 0 ≤ 7293034; omega), Nat.le_of_ble_eq_true rfl⟩ dL_law_1077 (fun r1077 σ1077 => ?_)
  refine j_istore [(7, .int r1077), (6, .int r1053), (0, .ref b), (1, .ref (ea E 0)), (2, .ref (ea E 84)), (3, .ref (ea E 100)), (4, .ref (ea E 101)), (5, .int x5)] C dL_law_1080 (by decide) rfl ?_
  refine j_aload_n 4 C dL_law_1082 rfl rfl ?_
  refine j_callVI [] (con6_thrown N) C mi6_thrown mv6_thrown lkL_126 (by decide) (ct_84 E _) rfl rfl rfl ⟨Nat.le_of_ble_eq_true rfl, Nat.le_of_ble_eq_true rfl, (by show k + 2 + 0 + 0 ≤ 601024; omega), (by show n + 12 + 0 + 0 ≤ 7293034; omega), Nat.le_of_ble_eq_true rfl⟩ dL_law_1083 (fun r1083 σ1083 => ?_)
  refine j_iload 1 C dL_law_1086 rfl ?_
  refine j_ieq 1093 C dL_law_1088 (by decide) ?_ ?_
  · refine j_iload 1 C dL_law_1093 rfl ?_
    refine j_zne 1110 C dL_law_1095 (by decide) ?_ ?_
    · refine j_goto 2228 C dL_law_1110 (by decide) ?_
      exact j_sub [2, 3, 4, 5, 6, 7] rfl (j_widen (by show k + 2 + 0 + 0 ≤ k + 3; omega) (by show n + 12 + 0 + 0 ≤ n + 18; omega) (HK σ1083))
    · refine j_aload_n 5 C dL_law_1098 rfl rfl ?_
      refine j_iconst (v := 0) 0 C dL_law_1099 (by decide) ?_
      refine j_lald C dL_law_1100 ?_
      refine j_iload 0 C dL_law_1101 rfl ?_
      refine j_i2l C dL_law_1103 ?_
      refine j_lceq 1110 C dL_law_1104 dL_law_1105 (by decide) ?_ ?_
      · refine j_goto 2228 C dL_law_1110 (by decide) ?_
        exact j_sub [2, 3, 4, 5, 6, 7] rfl (j_widen (by show k + 2 + 0 + 0 ≤ k + 3; omega) (by show n + 12 + 0 + 0 ≤ n + 18; omega) (HK σ1083))
      · exact j_none
  · exact j_none
set_option maxHeartbeats 4000000 in
set_option maxRecDepth 100000 in
theorem wcase11 {ρ : Type} {E : En} {p : Program} {l : Launch} {e : Env} {s : State} {m : MethodId} {args : Array Value} {below : List Frame} {meth : Method} {c : Code} {Q : ρ → State → Prop} {b Ls k n : Nat} {xs : Nat → Int32} (N : Nat) (C : Cx E 9 p s m args c code RL) (hT : l.stackTraces = false) (hX : Sc E s b Ls xs) (hk : k + 3 ≤ 601024) (hn : n + 18 ≤ 7293034) (x5 : Int32) (K : Hp → Option ρ) (HK : ∀ σ, J E 9 p l e room_1 s m args below meth c Q (K σ) 2228 [(0, .ref b), (1, .ref (ea E 0)), (2, .ref (ea E 84)), (3, .ref (ea E 100)), (4, .ref (ea E 101)), (5, .int x5)] [] σ (k + 3) (n + 18)) (σ : Hp) : J E 9 p l e room_1 s m args below meth c Q (fL_case11 N xs Ls x5 K σ) 1113 [(0, .ref b), (1, .ref (ea E 0)), (2, .ref (ea E 84)), (3, .ref (ea E 100)), (4, .ref (ea E 101)), (5, .int x5)] [] σ k n := by
  unfold fL_case11
  refine j_aload_n 1 C dL_law_1113 rfl rfl ?_
  refine j_aload_n 0 C dL_law_1114 rfl rfl ?_
  refine j_iload 5 C dL_law_1115 rfl ?_
  refine j_iconst (v := 1) 1 C dL_law_1117 (by decide) ?_
  refine j_iadd C dL_law_1118 ?_
  refine j_sld C hX dL_law_1119 ?_
  refine j_aload_n 0 C dL_law_1120 rfl rfl ?_
  refine j_iload 5 C dL_law_1121 rfl ?_
  refine j_iconst (v := 2) 2 C dL_law_1123 (by decide) ?_
  refine j_iadd C dL_law_1124 ?_
  refine j_sld C hX dL_law_1125 ?_
  refine j_aload_n 3 C dL_law_1126 rfl rfl ?_
  refine j_callWI [.ref (ea E 0), .int (xs (x5 + 1).toNatClampNeg), .int (xs (x5 + 2).toNatClampNeg), .ref (ea E 100)] (conL_locate N (xs (x5 + 1).toNatClampNeg) (xs (x5 + 2).toNatClampNeg)) C hT miL_locate msL_locate lkL_164 rfl rfl ⟨Nat.le_of_ble_eq_true rfl, Nat.le_of_ble_eq_true rfl, (by show k + 2 ≤ 601024; omega), (by show n + 12 ≤ 7293034; omega), Nat.le_of_ble_eq_true rfl⟩ dL_law_1127 (fun r1127 σ1127 => ?_)
  refine j_istore [(6, .int r1127), (0, .ref b), (1, .ref (ea E 0)), (2, .ref (ea E 84)), (3, .ref (ea E 100)), (4, .ref (ea E 101)), (5, .int x5)] C dL_law_1130 (by decide) rfl ?_
  refine j_aload_n 3 C dL_law_1132 rfl rfl ?_
  refine j_aload_n 1 C dL_law_1133 rfl rfl ?_
  refine j_iload 6 C dL_law_1134 rfl ?_
  refine j_iconst (v := 1) 1 C dL_law_1136 (by decide) ?_
  refine j_iadd C dL_law_1137 ?_
  refine j_sld C hX dL_law_1138 ?_
  refine j_aload_n 1 C dL_law_1139 rfl rfl ?_
  refine j_iload 6 C dL_law_1140 rfl ?_
  refine j_iconst (v := 2) 2 C dL_law_1142 (by decide) ?_
  refine j_iadd C dL_law_1143 ?_
  refine j_sld C hX dL_law_1144 ?_
  refine j_callVI [.int (xs (x5 + 1).toNatClampNeg), .int (xs (x5 + 2).toNatClampNeg)] (con6_locate N (xs (x5 + 1).toNatClampNeg) (xs (x5 + 2).toNatClampNeg)) C mi6_locate mv6_locate lkL_166 (by decide) (ct_84 E _) rfl rfl rfl ⟨Nat.le_of_ble_eq_true rfl, Nat.le_of_ble_eq_true rfl, (by show k + 2 + 0 ≤ 601024; omega), (by show n + 12 + 0 ≤ 7293034; omega), Nat.le_of_ble_eq_true rfl⟩ dL_law_1145 (fun r1145 σ1145 => ?_)
  refine j_istore [(7, .int r1145), (6, .int r1127), (0, .ref b), (1, .ref (ea E 0)), (2, .ref (ea E 84)), (3, .ref (ea E 100)), (4, .ref (ea E 101)), (5, .int x5)] C dL_law_1148 (by decide) rfl ?_
  refine j_aload_n 4 C dL_law_1150 rfl rfl ?_
  refine j_callVI [] (con6_thrown N) C mi6_thrown mv6_thrown lkL_126 (by decide) (ct_84 E _) rfl rfl rfl ⟨Nat.le_of_ble_eq_true rfl, Nat.le_of_ble_eq_true rfl, (by show k + 2 + 0 + 0 ≤ 601024; omega), (by show n + 12 + 0 + 0 ≤ 7293034; omega), Nat.le_of_ble_eq_true rfl⟩ dL_law_1151 (fun r1151 σ1151 => ?_)
  refine j_iload 1 C dL_law_1154 rfl ?_
  refine j_ieq 1161 C dL_law_1156 (by decide) ?_ ?_
  · refine j_iload 1 C dL_law_1161 rfl ?_
    refine j_zne 1178 C dL_law_1163 (by decide) ?_ ?_
    · refine j_goto 2228 C dL_law_1178 (by decide) ?_
      exact j_sub [2, 3, 4, 5, 6, 7] rfl (j_widen (by show k + 2 + 0 + 0 ≤ k + 3; omega) (by show n + 12 + 0 + 0 ≤ n + 18; omega) (HK σ1151))
    · refine j_aload_n 5 C dL_law_1166 rfl rfl ?_
      refine j_iconst (v := 0) 0 C dL_law_1167 (by decide) ?_
      refine j_lald C dL_law_1168 ?_
      refine j_iload 0 C dL_law_1169 rfl ?_
      refine j_i2l C dL_law_1171 ?_
      refine j_lceq 1178 C dL_law_1172 dL_law_1173 (by decide) ?_ ?_
      · refine j_goto 2228 C dL_law_1178 (by decide) ?_
        exact j_sub [2, 3, 4, 5, 6, 7] rfl (j_widen (by show k + 2 + 0 + 0 ≤ k + 3; omega) (by show n + 12 + 0 + 0 ≤ n + 18; omega) (HK σ1151))
      · exact j_none
  · exact j_none
set_option maxHeartbeats 4000000 in
set_option maxRecDepth 100000 in
theorem wcase12 {ρ : Type} {E : En} {p : Program} {l : Launch} {e : Env} {s : State} {m : MethodId} {args : Array Value} {below : List Frame} {meth : Method} {c : Code} {Q : ρ → State → Prop} {b Ls k n : Nat} {xs : Nat → Int32} (N : Nat) (C : Cx E 9 p s m args c code RL) (hT : l.stackTraces = false) (hX : Sc E s b Ls xs) (hk : k + 3 ≤ 601024) (hn : n + 18 ≤ 7293034) (x5 : Int32) (K : Hp → Option ρ) (HK : ∀ σ, J E 9 p l e room_1 s m args below meth c Q (K σ) 2228 [(0, .ref b), (1, .ref (ea E 0)), (2, .ref (ea E 84)), (3, .ref (ea E 100)), (4, .ref (ea E 101)), (5, .int x5)] [] σ (k + 3) (n + 18)) (σ : Hp) : J E 9 p l e room_1 s m args below meth c Q (fL_case12 N xs Ls x5 K σ) 1181 [(0, .ref b), (1, .ref (ea E 0)), (2, .ref (ea E 84)), (3, .ref (ea E 100)), (4, .ref (ea E 101)), (5, .int x5)] [] σ k n := by
  unfold fL_case12
  refine j_aload_n 1 C dL_law_1181 rfl rfl ?_
  refine j_aload_n 0 C dL_law_1182 rfl rfl ?_
  refine j_iload 5 C dL_law_1183 rfl ?_
  refine j_iconst (v := 1) 1 C dL_law_1185 (by decide) ?_
  refine j_iadd C dL_law_1186 ?_
  refine j_sld C hX dL_law_1187 ?_
  refine j_aload_n 3 C dL_law_1188 rfl rfl ?_
  refine j_callWI [.ref (ea E 0), .int (xs (x5 + 1).toNatClampNeg), .ref (ea E 100)] (conL_ranked N (xs (x5 + 1).toNatClampNeg)) C hT miL_ranked msL_ranked lkL_167 rfl rfl ⟨Nat.le_of_ble_eq_true rfl, Nat.le_of_ble_eq_true rfl, (by show k + 1 ≤ 601024; omega), (by show n + 6 ≤ 7293034; omega), Nat.le_of_ble_eq_true rfl⟩ dL_law_1189 (fun r1189 σ1189 => ?_)
  refine j_istore [(6, .int r1189), (0, .ref b), (1, .ref (ea E 0)), (2, .ref (ea E 84)), (3, .ref (ea E 100)), (4, .ref (ea E 101)), (5, .int x5)] C dL_law_1192 (by decide) rfl ?_
  refine j_aload_n 3 C dL_law_1194 rfl rfl ?_
  refine j_aload_n 1 C dL_law_1195 rfl rfl ?_
  refine j_iload 6 C dL_law_1196 rfl ?_
  refine j_iconst (v := 1) 1 C dL_law_1198 (by decide) ?_
  refine j_iadd C dL_law_1199 ?_
  refine j_sld C hX dL_law_1200 ?_
  refine j_callVI [.int (xs (x5 + 1).toNatClampNeg)] (con6_ranked N (xs (x5 + 1).toNatClampNeg)) C mi6_ranked mv6_ranked lkL_170 (by decide) (ct_84 E _) rfl rfl rfl ⟨Nat.le_of_ble_eq_true rfl, Nat.le_of_ble_eq_true rfl, (by show k + 1 + 0 ≤ 601024; omega), (by show n + 6 + 0 ≤ 7293034; omega), Nat.le_of_ble_eq_true rfl⟩ dL_law_1201 (fun r1201 σ1201 => ?_)
  refine j_istore [(7, .int r1201), (6, .int r1189), (0, .ref b), (1, .ref (ea E 0)), (2, .ref (ea E 84)), (3, .ref (ea E 100)), (4, .ref (ea E 101)), (5, .int x5)] C dL_law_1204 (by decide) rfl ?_
  refine j_aload_n 4 C dL_law_1206 rfl rfl ?_
  refine j_callVI [] (con6_thrown N) C mi6_thrown mv6_thrown lkL_126 (by decide) (ct_84 E _) rfl rfl rfl ⟨Nat.le_of_ble_eq_true rfl, Nat.le_of_ble_eq_true rfl, (by show k + 1 + 0 + 0 ≤ 601024; omega), (by show n + 6 + 0 + 0 ≤ 7293034; omega), Nat.le_of_ble_eq_true rfl⟩ dL_law_1207 (fun r1207 σ1207 => ?_)
  refine j_iload 1 C dL_law_1210 rfl ?_
  refine j_ieq 1217 C dL_law_1212 (by decide) ?_ ?_
  · refine j_iload 1 C dL_law_1217 rfl ?_
    refine j_zne 1234 C dL_law_1219 (by decide) ?_ ?_
    · refine j_goto 2228 C dL_law_1234 (by decide) ?_
      exact j_sub [2, 3, 4, 5, 6, 7] rfl (j_widen (by show k + 1 + 0 + 0 ≤ k + 3; omega) (by show n + 6 + 0 + 0 ≤ n + 18; omega) (HK σ1207))
    · refine j_aload_n 5 C dL_law_1222 rfl rfl ?_
      refine j_iconst (v := 0) 0 C dL_law_1223 (by decide) ?_
      refine j_lald C dL_law_1224 ?_
      refine j_iload 0 C dL_law_1225 rfl ?_
      refine j_i2l C dL_law_1227 ?_
      refine j_lceq 1234 C dL_law_1228 dL_law_1229 (by decide) ?_ ?_
      · refine j_goto 2228 C dL_law_1234 (by decide) ?_
        exact j_sub [2, 3, 4, 5, 6, 7] rfl (j_widen (by show k + 1 + 0 + 0 ≤ k + 3; omega) (by show n + 6 + 0 + 0 ≤ n + 18; omega) (HK σ1207))
      · exact j_none
  · exact j_none
set_option maxHeartbeats 4000000 in
set_option maxRecDepth 100000 in
theorem wcase13 {ρ : Type} {E : En} {p : Program} {l : Launch} {e : Env} {s : State} {m : MethodId} {args : Array Value} {below : List Frame} {meth : Method} {c : Code} {Q : ρ → State → Prop} {b Ls k n : Nat} {xs : Nat → Int32} (N : Nat) (C : Cx E 9 p s m args c code RL) (hT : l.stackTraces = false) (hX : Sc E s b Ls xs) (hk : k + 3 ≤ 601024) (hn : n + 18 ≤ 7293034) (x5 : Int32) (K : Hp → Option ρ) (HK : ∀ σ, J E 9 p l e room_1 s m args below meth c Q (K σ) 2228 [(0, .ref b), (1, .ref (ea E 0)), (2, .ref (ea E 84)), (3, .ref (ea E 100)), (4, .ref (ea E 101)), (5, .int x5)] [] σ (k + 3) (n + 18)) (σ : Hp) : J E 9 p l e room_1 s m args below meth c Q (fL_case13 N xs Ls x5 K σ) 1237 [(0, .ref b), (1, .ref (ea E 0)), (2, .ref (ea E 84)), (3, .ref (ea E 100)), (4, .ref (ea E 101)), (5, .int x5)] [] σ k n := by
  unfold fL_case13
  refine j_aload_n 1 C dL_law_1237 rfl rfl ?_
  refine j_aload_n 0 C dL_law_1238 rfl rfl ?_
  refine j_iload 5 C dL_law_1239 rfl ?_
  refine j_iconst (v := 1) 1 C dL_law_1241 (by decide) ?_
  refine j_iadd C dL_law_1242 ?_
  refine j_sld C hX dL_law_1243 ?_
  refine j_aload_n 3 C dL_law_1244 rfl rfl ?_
  refine j_callWI [.ref (ea E 0), .int (xs (x5 + 1).toNatClampNeg), .ref (ea E 100)] (conL_fate N (xs (x5 + 1).toNatClampNeg)) C hT miL_fate msL_fate lkL_171 rfl rfl ⟨Nat.le_of_ble_eq_true rfl, Nat.le_of_ble_eq_true rfl, (by show k + 1 ≤ 601024; omega), (by show n + 6 ≤ 7293034; omega), Nat.le_of_ble_eq_true rfl⟩ dL_law_1245 (fun r1245 σ1245 => ?_)
  refine j_istore [(6, .int r1245), (0, .ref b), (1, .ref (ea E 0)), (2, .ref (ea E 84)), (3, .ref (ea E 100)), (4, .ref (ea E 101)), (5, .int x5)] C dL_law_1248 (by decide) rfl ?_
  refine j_aload_n 3 C dL_law_1250 rfl rfl ?_
  refine j_aload_n 1 C dL_law_1251 rfl rfl ?_
  refine j_iload 6 C dL_law_1252 rfl ?_
  refine j_iconst (v := 1) 1 C dL_law_1254 (by decide) ?_
  refine j_iadd C dL_law_1255 ?_
  refine j_sld C hX dL_law_1256 ?_
  refine j_callVI [.int (xs (x5 + 1).toNatClampNeg)] (con6_fate N (xs (x5 + 1).toNatClampNeg)) C mi6_fate mv6_fate lkL_173 (by decide) (ct_84 E _) rfl rfl rfl ⟨Nat.le_of_ble_eq_true rfl, Nat.le_of_ble_eq_true rfl, (by show k + 1 + 0 ≤ 601024; omega), (by show n + 6 + 0 ≤ 7293034; omega), Nat.le_of_ble_eq_true rfl⟩ dL_law_1257 (fun r1257 σ1257 => ?_)
  refine j_istore [(7, .int r1257), (6, .int r1245), (0, .ref b), (1, .ref (ea E 0)), (2, .ref (ea E 84)), (3, .ref (ea E 100)), (4, .ref (ea E 101)), (5, .int x5)] C dL_law_1260 (by decide) rfl ?_
  refine j_aload_n 4 C dL_law_1262 rfl rfl ?_
  refine j_callVI [] (con6_thrown N) C mi6_thrown mv6_thrown lkL_126 (by decide) (ct_84 E _) rfl rfl rfl ⟨Nat.le_of_ble_eq_true rfl, Nat.le_of_ble_eq_true rfl, (by show k + 1 + 0 + 0 ≤ 601024; omega), (by show n + 6 + 0 + 0 ≤ 7293034; omega), Nat.le_of_ble_eq_true rfl⟩ dL_law_1263 (fun r1263 σ1263 => ?_)
  refine j_iload 1 C dL_law_1266 rfl ?_
  refine j_ieq 1273 C dL_law_1268 (by decide) ?_ ?_
  · refine j_iload 1 C dL_law_1273 rfl ?_
    refine j_zne 1290 C dL_law_1275 (by decide) ?_ ?_
    · refine j_goto 2228 C dL_law_1290 (by decide) ?_
      exact j_sub [2, 3, 4, 5, 6, 7] rfl (j_widen (by show k + 1 + 0 + 0 ≤ k + 3; omega) (by show n + 6 + 0 + 0 ≤ n + 18; omega) (HK σ1263))
    · refine j_aload_n 5 C dL_law_1278 rfl rfl ?_
      refine j_iconst (v := 0) 0 C dL_law_1279 (by decide) ?_
      refine j_lald C dL_law_1280 ?_
      refine j_iload 0 C dL_law_1281 rfl ?_
      refine j_i2l C dL_law_1283 ?_
      refine j_lceq 1290 C dL_law_1284 dL_law_1285 (by decide) ?_ ?_
      · refine j_goto 2228 C dL_law_1290 (by decide) ?_
        exact j_sub [2, 3, 4, 5, 6, 7] rfl (j_widen (by show k + 1 + 0 + 0 ≤ k + 3; omega) (by show n + 6 + 0 + 0 ≤ n + 18; omega) (HK σ1263))
      · exact j_none
  · exact j_none
set_option maxHeartbeats 4000000 in
set_option maxRecDepth 100000 in
theorem wcase14 {ρ : Type} {E : En} {p : Program} {l : Launch} {e : Env} {s : State} {m : MethodId} {args : Array Value} {below : List Frame} {meth : Method} {c : Code} {Q : ρ → State → Prop} {b Ls k n : Nat} {xs : Nat → Int32} (N : Nat) (C : Cx E 9 p s m args c code RL) (hT : l.stackTraces = false) (hX : Sc E s b Ls xs) (hk : k + 3 ≤ 601024) (hn : n + 18 ≤ 7293034) (x5 : Int32) (K : Hp → Option ρ) (HK : ∀ σ, J E 9 p l e room_1 s m args below meth c Q (K σ) 2228 [(0, .ref b), (1, .ref (ea E 0)), (2, .ref (ea E 84)), (3, .ref (ea E 100)), (4, .ref (ea E 101)), (5, .int x5)] [] σ (k + 3) (n + 18)) (σ : Hp) : J E 9 p l e room_1 s m args below meth c Q (fL_case14 N xs Ls x5 K σ) 1293 [(0, .ref b), (1, .ref (ea E 0)), (2, .ref (ea E 84)), (3, .ref (ea E 100)), (4, .ref (ea E 101)), (5, .int x5)] [] σ k n := by
  unfold fL_case14
  refine j_aload_n 1 C dL_law_1293 rfl rfl ?_
  refine j_aload_n 0 C dL_law_1294 rfl rfl ?_
  refine j_iload 5 C dL_law_1295 rfl ?_
  refine j_iconst (v := 1) 1 C dL_law_1297 (by decide) ?_
  refine j_iadd C dL_law_1298 ?_
  refine j_sld C hX dL_law_1299 ?_
  refine j_aload_n 3 C dL_law_1300 rfl rfl ?_
  refine j_callWI [.ref (ea E 0), .int (xs (x5 + 1).toNatClampNeg), .ref (ea E 100)] (conL_blamed N (xs (x5 + 1).toNatClampNeg)) C hT miL_blamed msL_blamed lkL_174 rfl rfl ⟨Nat.le_of_ble_eq_true rfl, Nat.le_of_ble_eq_true rfl, (by show k + 2 ≤ 601024; omega), (by show n + 12 ≤ 7293034; omega), Nat.le_of_ble_eq_true rfl⟩ dL_law_1301 (fun r1301 σ1301 => ?_)
  refine j_istore [(6, .int r1301), (0, .ref b), (1, .ref (ea E 0)), (2, .ref (ea E 84)), (3, .ref (ea E 100)), (4, .ref (ea E 101)), (5, .int x5)] C dL_law_1304 (by decide) rfl ?_
  refine j_aload_n 3 C dL_law_1306 rfl rfl ?_
  refine j_aload_n 1 C dL_law_1307 rfl rfl ?_
  refine j_iload 6 C dL_law_1308 rfl ?_
  refine j_iconst (v := 1) 1 C dL_law_1310 (by decide) ?_
  refine j_iadd C dL_law_1311 ?_
  refine j_sld C hX dL_law_1312 ?_
  refine j_callVI [.int (xs (x5 + 1).toNatClampNeg)] (con6_blamed N (xs (x5 + 1).toNatClampNeg)) C mi6_blamed mv6_blamed lkL_176 (by decide) (ct_84 E _) rfl rfl rfl ⟨Nat.le_of_ble_eq_true rfl, Nat.le_of_ble_eq_true rfl, (by show k + 2 + 0 ≤ 601024; omega), (by show n + 12 + 0 ≤ 7293034; omega), Nat.le_of_ble_eq_true rfl⟩ dL_law_1313 (fun r1313 σ1313 => ?_)
  refine j_istore [(7, .int r1313), (6, .int r1301), (0, .ref b), (1, .ref (ea E 0)), (2, .ref (ea E 84)), (3, .ref (ea E 100)), (4, .ref (ea E 101)), (5, .int x5)] C dL_law_1316 (by decide) rfl ?_
  refine j_aload_n 4 C dL_law_1318 rfl rfl ?_
  refine j_callVI [] (con6_thrown N) C mi6_thrown mv6_thrown lkL_126 (by decide) (ct_84 E _) rfl rfl rfl ⟨Nat.le_of_ble_eq_true rfl, Nat.le_of_ble_eq_true rfl, (by show k + 2 + 0 + 0 ≤ 601024; omega), (by show n + 12 + 0 + 0 ≤ 7293034; omega), Nat.le_of_ble_eq_true rfl⟩ dL_law_1319 (fun r1319 σ1319 => ?_)
  refine j_iload 1 C dL_law_1322 rfl ?_
  refine j_ieq 1329 C dL_law_1324 (by decide) ?_ ?_
  · refine j_iload 1 C dL_law_1329 rfl ?_
    refine j_zne 1346 C dL_law_1331 (by decide) ?_ ?_
    · refine j_goto 2228 C dL_law_1346 (by decide) ?_
      exact j_sub [2, 3, 4, 5, 6, 7] rfl (j_widen (by show k + 2 + 0 + 0 ≤ k + 3; omega) (by show n + 12 + 0 + 0 ≤ n + 18; omega) (HK σ1319))
    · refine j_aload_n 5 C dL_law_1334 rfl rfl ?_
      refine j_iconst (v := 0) 0 C dL_law_1335 (by decide) ?_
      refine j_lald C dL_law_1336 ?_
      refine j_iload 0 C dL_law_1337 rfl ?_
      refine j_i2l C dL_law_1339 ?_
      refine j_lceq 1346 C dL_law_1340 dL_law_1341 (by decide) ?_ ?_
      · refine j_goto 2228 C dL_law_1346 (by decide) ?_
        exact j_sub [2, 3, 4, 5, 6, 7] rfl (j_widen (by show k + 2 + 0 + 0 ≤ k + 3; omega) (by show n + 12 + 0 + 0 ≤ n + 18; omega) (HK σ1319))
      · exact j_none
  · exact j_none
set_option maxHeartbeats 4000000 in
set_option maxRecDepth 100000 in
theorem wcase15 {ρ : Type} {E : En} {p : Program} {l : Launch} {e : Env} {s : State} {m : MethodId} {args : Array Value} {below : List Frame} {meth : Method} {c : Code} {Q : ρ → State → Prop} {b Ls k n : Nat} {xs : Nat → Int32} (N : Nat) (C : Cx E 9 p s m args c code RL) (hT : l.stackTraces = false) (hX : Sc E s b Ls xs) (hk : k + 3 ≤ 601024) (hn : n + 18 ≤ 7293034) (x5 : Int32) (K : Hp → Option ρ) (HK : ∀ σ, J E 9 p l e room_1 s m args below meth c Q (K σ) 2228 [(0, .ref b), (1, .ref (ea E 0)), (2, .ref (ea E 84)), (3, .ref (ea E 100)), (4, .ref (ea E 101)), (5, .int x5)] [] σ (k + 3) (n + 18)) (σ : Hp) : J E 9 p l e room_1 s m args below meth c Q (fL_case15 N xs Ls x5 K σ) 1349 [(0, .ref b), (1, .ref (ea E 0)), (2, .ref (ea E 84)), (3, .ref (ea E 100)), (4, .ref (ea E 101)), (5, .int x5)] [] σ k n := by
  unfold fL_case15
  refine j_aload_n 1 C dL_law_1349 rfl rfl ?_
  refine j_aload_n 0 C dL_law_1350 rfl rfl ?_
  refine j_iload 5 C dL_law_1351 rfl ?_
  refine j_iconst (v := 1) 1 C dL_law_1353 (by decide) ?_
  refine j_iadd C dL_law_1354 ?_
  refine j_sld C hX dL_law_1355 ?_
  refine j_aload_n 0 C dL_law_1356 rfl rfl ?_
  refine j_iload 5 C dL_law_1357 rfl ?_
  refine j_iconst (v := 2) 2 C dL_law_1359 (by decide) ?_
  refine j_iadd C dL_law_1360 ?_
  refine j_sld C hX dL_law_1361 ?_
  refine j_zeq 1369 C dL_law_1362 (by decide) ?_ ?_
  · refine j_iconst (v := 0) 0 C dL_law_1369 (by decide) ?_
    refine j_aload_n 3 C dL_law_1370 rfl rfl ?_
    refine j_callWI [.ref (ea E 0), .int (xs (x5 + 1).toNatClampNeg), .int 0, .ref (ea E 100)] (conL_linesIf N (xs (x5 + 1).toNatClampNeg) 0) C hT miL_linesIf msL_linesIf lkL_177 rfl rfl ⟨Nat.le_of_ble_eq_true rfl, Nat.le_of_ble_eq_true rfl, (by show k + 1 ≤ 601024; omega), (by show n + 6 ≤ 7293034; omega), Nat.le_of_ble_eq_true rfl⟩ dL_law_1371 (fun r1371 σ1371 => ?_)
    refine j_istore [(6, .int r1371), (0, .ref b), (1, .ref (ea E 0)), (2, .ref (ea E 84)), (3, .ref (ea E 100)), (4, .ref (ea E 101)), (5, .int x5)] C dL_law_1374 (by decide) rfl ?_
    refine j_aload_n 3 C dL_law_1376 rfl rfl ?_
    refine j_aload_n 1 C dL_law_1377 rfl rfl ?_
    refine j_iload 6 C dL_law_1378 rfl ?_
    refine j_iconst (v := 1) 1 C dL_law_1380 (by decide) ?_
    refine j_iadd C dL_law_1381 ?_
    refine j_sld C hX dL_law_1382 ?_
    refine j_aload_n 1 C dL_law_1383 rfl rfl ?_
    refine j_iload 6 C dL_law_1384 rfl ?_
    refine j_iconst (v := 2) 2 C dL_law_1386 (by decide) ?_
    refine j_iadd C dL_law_1387 ?_
    refine j_sld C hX dL_law_1388 ?_
    refine j_zeq 1396 C dL_law_1389 (by decide) ?_ ?_
    · refine j_iconst (v := 0) 0 C dL_law_1396 (by decide) ?_
      refine j_callVI [.int (xs (x5 + 1).toNatClampNeg), .int 0] (con6_linesIf N (xs (x5 + 1).toNatClampNeg) 0) C mi6_linesIf mv6_linesIf lkL_179 (by decide) (ct_84 E _) rfl rfl rfl ⟨Nat.le_of_ble_eq_true rfl, Nat.le_of_ble_eq_true rfl, (by show k + 1 + 0 ≤ 601024; omega), (by show n + 6 + 0 ≤ 7293034; omega), Nat.le_of_ble_eq_true rfl⟩ dL_law_1397 (fun r1397 σ1397 => ?_)
      refine j_istore [(7, .int r1397), (6, .int r1371), (0, .ref b), (1, .ref (ea E 0)), (2, .ref (ea E 84)), (3, .ref (ea E 100)), (4, .ref (ea E 101)), (5, .int x5)] C dL_law_1400 (by decide) rfl ?_
      refine j_aload_n 4 C dL_law_1402 rfl rfl ?_
      refine j_callVI [] (con6_thrown N) C mi6_thrown mv6_thrown lkL_126 (by decide) (ct_84 E _) rfl rfl rfl ⟨Nat.le_of_ble_eq_true rfl, Nat.le_of_ble_eq_true rfl, (by show k + 1 + 0 + 0 ≤ 601024; omega), (by show n + 6 + 0 + 0 ≤ 7293034; omega), Nat.le_of_ble_eq_true rfl⟩ dL_law_1403 (fun r1403 σ1403 => ?_)
      refine j_iload 1 C dL_law_1406 rfl ?_
      refine j_ieq 1413 C dL_law_1408 (by decide) ?_ ?_
      · refine j_iload 1 C dL_law_1413 rfl ?_
        refine j_zne 1430 C dL_law_1415 (by decide) ?_ ?_
        · refine j_goto 2228 C dL_law_1430 (by decide) ?_
          exact j_sub [2, 3, 4, 5, 6, 7] rfl (j_widen (by show k + 1 + 0 + 0 ≤ k + 3; omega) (by show n + 6 + 0 + 0 ≤ n + 18; omega) (HK σ1403))
        · refine j_aload_n 5 C dL_law_1418 rfl rfl ?_
          refine j_iconst (v := 0) 0 C dL_law_1419 (by decide) ?_
          refine j_lald C dL_law_1420 ?_
          refine j_iload 0 C dL_law_1421 rfl ?_
          refine j_i2l C dL_law_1423 ?_
          refine j_lceq 1430 C dL_law_1424 dL_law_1425 (by decide) ?_ ?_
          · refine j_goto 2228 C dL_law_1430 (by decide) ?_
            exact j_sub [2, 3, 4, 5, 6, 7] rfl (j_widen (by show k + 1 + 0 + 0 ≤ k + 3; omega) (by show n + 6 + 0 + 0 ≤ n + 18; omega) (HK σ1403))
          · exact j_none
      · exact j_none
    · refine j_iconst (v := 1) 1 C dL_law_1392 (by decide) ?_
      refine j_goto 1397 C dL_law_1393 (by decide) ?_
      refine j_callVI [.int (xs (x5 + 1).toNatClampNeg), .int 1] (con6_linesIf N (xs (x5 + 1).toNatClampNeg) 1) C mi6_linesIf mv6_linesIf lkL_179 (by decide) (ct_84 E _) rfl rfl rfl ⟨Nat.le_of_ble_eq_true rfl, Nat.le_of_ble_eq_true rfl, (by show k + 1 + 0 ≤ 601024; omega), (by show n + 6 + 0 ≤ 7293034; omega), Nat.le_of_ble_eq_true rfl⟩ dL_law_1397 (fun r1397 σ1397 => ?_)
      refine j_istore [(7, .int r1397), (6, .int r1371), (0, .ref b), (1, .ref (ea E 0)), (2, .ref (ea E 84)), (3, .ref (ea E 100)), (4, .ref (ea E 101)), (5, .int x5)] C dL_law_1400 (by decide) rfl ?_
      refine j_aload_n 4 C dL_law_1402 rfl rfl ?_
      refine j_callVI [] (con6_thrown N) C mi6_thrown mv6_thrown lkL_126 (by decide) (ct_84 E _) rfl rfl rfl ⟨Nat.le_of_ble_eq_true rfl, Nat.le_of_ble_eq_true rfl, (by show k + 1 + 0 + 0 ≤ 601024; omega), (by show n + 6 + 0 + 0 ≤ 7293034; omega), Nat.le_of_ble_eq_true rfl⟩ dL_law_1403 (fun r1403 σ1403 => ?_)
      refine j_iload 1 C dL_law_1406 rfl ?_
      refine j_ieq 1413 C dL_law_1408 (by decide) ?_ ?_
      · refine j_iload 1 C dL_law_1413 rfl ?_
        refine j_zne 1430 C dL_law_1415 (by decide) ?_ ?_
        · refine j_goto 2228 C dL_law_1430 (by decide) ?_
          exact j_sub [2, 3, 4, 5, 6, 7] rfl (j_widen (by show k + 1 + 0 + 0 ≤ k + 3; omega) (by show n + 6 + 0 + 0 ≤ n + 18; omega) (HK σ1403))
        · refine j_aload_n 5 C dL_law_1418 rfl rfl ?_
          refine j_iconst (v := 0) 0 C dL_law_1419 (by decide) ?_
          refine j_lald C dL_law_1420 ?_
          refine j_iload 0 C dL_law_1421 rfl ?_
          refine j_i2l C dL_law_1423 ?_
          refine j_lceq 1430 C dL_law_1424 dL_law_1425 (by decide) ?_ ?_
          · refine j_goto 2228 C dL_law_1430 (by decide) ?_
            exact j_sub [2, 3, 4, 5, 6, 7] rfl (j_widen (by show k + 1 + 0 + 0 ≤ k + 3; omega) (by show n + 6 + 0 + 0 ≤ n + 18; omega) (HK σ1403))
          · exact j_none
      · exact j_none
  · refine j_iconst (v := 1) 1 C dL_law_1365 (by decide) ?_
    refine j_goto 1370 C dL_law_1366 (by decide) ?_
    refine j_aload_n 3 C dL_law_1370 rfl rfl ?_
    refine j_callWI [.ref (ea E 0), .int (xs (x5 + 1).toNatClampNeg), .int 1, .ref (ea E 100)] (conL_linesIf N (xs (x5 + 1).toNatClampNeg) 1) C hT miL_linesIf msL_linesIf lkL_177 rfl rfl ⟨Nat.le_of_ble_eq_true rfl, Nat.le_of_ble_eq_true rfl, (by show k + 1 ≤ 601024; omega), (by show n + 6 ≤ 7293034; omega), Nat.le_of_ble_eq_true rfl⟩ dL_law_1371 (fun r1371 σ1371 => ?_)
    refine j_istore [(6, .int r1371), (0, .ref b), (1, .ref (ea E 0)), (2, .ref (ea E 84)), (3, .ref (ea E 100)), (4, .ref (ea E 101)), (5, .int x5)] C dL_law_1374 (by decide) rfl ?_
    refine j_aload_n 3 C dL_law_1376 rfl rfl ?_
    refine j_aload_n 1 C dL_law_1377 rfl rfl ?_
    refine j_iload 6 C dL_law_1378 rfl ?_
    refine j_iconst (v := 1) 1 C dL_law_1380 (by decide) ?_
    refine j_iadd C dL_law_1381 ?_
    refine j_sld C hX dL_law_1382 ?_
    refine j_aload_n 1 C dL_law_1383 rfl rfl ?_
    refine j_iload 6 C dL_law_1384 rfl ?_
    refine j_iconst (v := 2) 2 C dL_law_1386 (by decide) ?_
    refine j_iadd C dL_law_1387 ?_
    refine j_sld C hX dL_law_1388 ?_
    refine j_zeq 1396 C dL_law_1389 (by decide) ?_ ?_
    · refine j_iconst (v := 0) 0 C dL_law_1396 (by decide) ?_
      refine j_callVI [.int (xs (x5 + 1).toNatClampNeg), .int 0] (con6_linesIf N (xs (x5 + 1).toNatClampNeg) 0) C mi6_linesIf mv6_linesIf lkL_179 (by decide) (ct_84 E _) rfl rfl rfl ⟨Nat.le_of_ble_eq_true rfl, Nat.le_of_ble_eq_true rfl, (by show k + 1 + 0 ≤ 601024; omega), (by show n + 6 + 0 ≤ 7293034; omega), Nat.le_of_ble_eq_true rfl⟩ dL_law_1397 (fun r1397 σ1397 => ?_)
      refine j_istore [(7, .int r1397), (6, .int r1371), (0, .ref b), (1, .ref (ea E 0)), (2, .ref (ea E 84)), (3, .ref (ea E 100)), (4, .ref (ea E 101)), (5, .int x5)] C dL_law_1400 (by decide) rfl ?_
      refine j_aload_n 4 C dL_law_1402 rfl rfl ?_
      refine j_callVI [] (con6_thrown N) C mi6_thrown mv6_thrown lkL_126 (by decide) (ct_84 E _) rfl rfl rfl ⟨Nat.le_of_ble_eq_true rfl, Nat.le_of_ble_eq_true rfl, (by show k + 1 + 0 + 0 ≤ 601024; omega), (by show n + 6 + 0 + 0 ≤ 7293034; omega), Nat.le_of_ble_eq_true rfl⟩ dL_law_1403 (fun r1403 σ1403 => ?_)
      refine j_iload 1 C dL_law_1406 rfl ?_
      refine j_ieq 1413 C dL_law_1408 (by decide) ?_ ?_
      · refine j_iload 1 C dL_law_1413 rfl ?_
        refine j_zne 1430 C dL_law_1415 (by decide) ?_ ?_
        · refine j_goto 2228 C dL_law_1430 (by decide) ?_
          exact j_sub [2, 3, 4, 5, 6, 7] rfl (j_widen (by show k + 1 + 0 + 0 ≤ k + 3; omega) (by show n + 6 + 0 + 0 ≤ n + 18; omega) (HK σ1403))
        · refine j_aload_n 5 C dL_law_1418 rfl rfl ?_
          refine j_iconst (v := 0) 0 C dL_law_1419 (by decide) ?_
          refine j_lald C dL_law_1420 ?_
          refine j_iload 0 C dL_law_1421 rfl ?_
          refine j_i2l C dL_law_1423 ?_
          refine j_lceq 1430 C dL_law_1424 dL_law_1425 (by decide) ?_ ?_
          · refine j_goto 2228 C dL_law_1430 (by decide) ?_
            exact j_sub [2, 3, 4, 5, 6, 7] rfl (j_widen (by show k + 1 + 0 + 0 ≤ k + 3; omega) (by show n + 6 + 0 + 0 ≤ n + 18; omega) (HK σ1403))
          · exact j_none
      · exact j_none
    · refine j_iconst (v := 1) 1 C dL_law_1392 (by decide) ?_
      refine j_goto 1397 C dL_law_1393 (by decide) ?_
      refine j_callVI [.int (xs (x5 + 1).toNatClampNeg), .int 1] (con6_linesIf N (xs (x5 + 1).toNatClampNeg) 1) C mi6_linesIf mv6_linesIf lkL_179 (by decide) (ct_84 E _) rfl rfl rfl ⟨Nat.le_of_ble_eq_true rfl, Nat.le_of_ble_eq_true rfl, (by show k + 1 + 0 ≤ 601024; omega), (by show n + 6 + 0 ≤ 7293034; omega), Nat.le_of_ble_eq_true rfl⟩ dL_law_1397 (fun r1397 σ1397 => ?_)
      refine j_istore [(7, .int r1397), (6, .int r1371), (0, .ref b), (1, .ref (ea E 0)), (2, .ref (ea E 84)), (3, .ref (ea E 100)), (4, .ref (ea E 101)), (5, .int x5)] C dL_law_1400 (by decide) rfl ?_
      refine j_aload_n 4 C dL_law_1402 rfl rfl ?_
      refine j_callVI [] (con6_thrown N) C mi6_thrown mv6_thrown lkL_126 (by decide) (ct_84 E _) rfl rfl rfl ⟨Nat.le_of_ble_eq_true rfl, Nat.le_of_ble_eq_true rfl, (by show k + 1 + 0 + 0 ≤ 601024; omega), (by show n + 6 + 0 + 0 ≤ 7293034; omega), Nat.le_of_ble_eq_true rfl⟩ dL_law_1403 (fun r1403 σ1403 => ?_)
      refine j_iload 1 C dL_law_1406 rfl ?_
      refine j_ieq 1413 C dL_law_1408 (by decide) ?_ ?_
      · refine j_iload 1 C dL_law_1413 rfl ?_
        refine j_zne 1430 C dL_law_1415 (by decide) ?_ ?_
        · refine j_goto 2228 C dL_law_1430 (by decide) ?_
          exact j_sub [2, 3, 4, 5, 6, 7] rfl (j_widen (by show k + 1 + 0 + 0 ≤ k + 3; omega) (by show n + 6 + 0 + 0 ≤ n + 18; omega) (HK σ1403))
        · refine j_aload_n 5 C dL_law_1418 rfl rfl ?_
          refine j_iconst (v := 0) 0 C dL_law_1419 (by decide) ?_
          refine j_lald C dL_law_1420 ?_
          refine j_iload 0 C dL_law_1421 rfl ?_
          refine j_i2l C dL_law_1423 ?_
          refine j_lceq 1430 C dL_law_1424 dL_law_1425 (by decide) ?_ ?_
          · refine j_goto 2228 C dL_law_1430 (by decide) ?_
            exact j_sub [2, 3, 4, 5, 6, 7] rfl (j_widen (by show k + 1 + 0 + 0 ≤ k + 3; omega) (by show n + 6 + 0 + 0 ≤ n + 18; omega) (HK σ1403))
          · exact j_none
      · exact j_none
set_option maxHeartbeats 4000000 in
set_option maxRecDepth 100000 in
theorem wcase16 {ρ : Type} {E : En} {p : Program} {l : Launch} {e : Env} {s : State} {m : MethodId} {args : Array Value} {below : List Frame} {meth : Method} {c : Code} {Q : ρ → State → Prop} {b Ls k n : Nat} {xs : Nat → Int32} (N : Nat) (C : Cx E 9 p s m args c code RL) (hT : l.stackTraces = false) (hX : Sc E s b Ls xs) (hk : k + 3 ≤ 601024) (hn : n + 18 ≤ 7293034) (x5 : Int32) (K : Hp → Option ρ) (HK : ∀ σ, J E 9 p l e room_1 s m args below meth c Q (K σ) 2228 [(0, .ref b), (1, .ref (ea E 0)), (2, .ref (ea E 84)), (3, .ref (ea E 100)), (4, .ref (ea E 101)), (5, .int x5)] [] σ (k + 3) (n + 18)) (σ : Hp) : J E 9 p l e room_1 s m args below meth c Q (fL_case16 N xs Ls x5 K σ) 1433 [(0, .ref b), (1, .ref (ea E 0)), (2, .ref (ea E 84)), (3, .ref (ea E 100)), (4, .ref (ea E 101)), (5, .int x5)] [] σ k n := by
  unfold fL_case16
  refine j_aload_n 1 C dL_law_1433 rfl rfl ?_
  refine j_aload_n 0 C dL_law_1434 rfl rfl ?_
  refine j_iload 5 C dL_law_1435 rfl ?_
  refine j_iconst (v := 1) 1 C dL_law_1437 (by decide) ?_
  refine j_iadd C dL_law_1438 ?_
  refine j_sld C hX dL_law_1439 ?_
  refine j_aload_n 3 C dL_law_1440 rfl rfl ?_
  refine j_callWI [.ref (ea E 0), .int (xs (x5 + 1).toNatClampNeg), .ref (ea E 100)] (conL_trim N (xs (x5 + 1).toNatClampNeg)) C hT miL_trim msL_trim lkL_180 rfl rfl ⟨Nat.le_of_ble_eq_true rfl, Nat.le_of_ble_eq_true rfl, (by show k + 2 ≤ 601024; omega), (by show n + 12 ≤ 7293034; omega), Nat.le_of_ble_eq_true rfl⟩ dL_law_1441 (fun r1441 σ1441 => ?_)
  refine j_istore [(6, .int r1441), (0, .ref b), (1, .ref (ea E 0)), (2, .ref (ea E 84)), (3, .ref (ea E 100)), (4, .ref (ea E 101)), (5, .int x5)] C dL_law_1444 (by decide) rfl ?_
  refine j_aload_n 3 C dL_law_1446 rfl rfl ?_
  refine j_aload_n 1 C dL_law_1447 rfl rfl ?_
  refine j_iload 6 C dL_law_1448 rfl ?_
  refine j_iconst (v := 1) 1 C dL_law_1450 (by decide) ?_
  refine j_iadd C dL_law_1451 ?_
  refine j_sld C hX dL_law_1452 ?_
  refine j_callVI [.int (xs (x5 + 1).toNatClampNeg)] (con6_trim N (xs (x5 + 1).toNatClampNeg)) C mi6_trim mv6_trim lkL_182 (by decide) (ct_84 E _) rfl rfl rfl ⟨Nat.le_of_ble_eq_true rfl, Nat.le_of_ble_eq_true rfl, (by show k + 2 + 0 ≤ 601024; omega), (by show n + 12 + 0 ≤ 7293034; omega), Nat.le_of_ble_eq_true rfl⟩ dL_law_1453 (fun r1453 σ1453 => ?_)
  refine j_istore [(7, .int r1453), (6, .int r1441), (0, .ref b), (1, .ref (ea E 0)), (2, .ref (ea E 84)), (3, .ref (ea E 100)), (4, .ref (ea E 101)), (5, .int x5)] C dL_law_1456 (by decide) rfl ?_
  refine j_aload_n 4 C dL_law_1458 rfl rfl ?_
  refine j_callVI [] (con6_thrown N) C mi6_thrown mv6_thrown lkL_126 (by decide) (ct_84 E _) rfl rfl rfl ⟨Nat.le_of_ble_eq_true rfl, Nat.le_of_ble_eq_true rfl, (by show k + 2 + 0 + 0 ≤ 601024; omega), (by show n + 12 + 0 + 0 ≤ 7293034; omega), Nat.le_of_ble_eq_true rfl⟩ dL_law_1459 (fun r1459 σ1459 => ?_)
  refine j_iload 1 C dL_law_1462 rfl ?_
  refine j_ieq 1469 C dL_law_1464 (by decide) ?_ ?_
  · refine j_iload 1 C dL_law_1469 rfl ?_
    refine j_zne 1486 C dL_law_1471 (by decide) ?_ ?_
    · refine j_goto 2228 C dL_law_1486 (by decide) ?_
      exact j_sub [2, 3, 4, 5, 6, 7] rfl (j_widen (by show k + 2 + 0 + 0 ≤ k + 3; omega) (by show n + 12 + 0 + 0 ≤ n + 18; omega) (HK σ1459))
    · refine j_aload_n 5 C dL_law_1474 rfl rfl ?_
      refine j_iconst (v := 0) 0 C dL_law_1475 (by decide) ?_
      refine j_lald C dL_law_1476 ?_
      refine j_iload 0 C dL_law_1477 rfl ?_
      refine j_i2l C dL_law_1479 ?_
      refine j_lceq 1486 C dL_law_1480 dL_law_1481 (by decide) ?_ ?_
      · refine j_goto 2228 C dL_law_1486 (by decide) ?_
        exact j_sub [2, 3, 4, 5, 6, 7] rfl (j_widen (by show k + 2 + 0 + 0 ≤ k + 3; omega) (by show n + 12 + 0 + 0 ≤ n + 18; omega) (HK σ1459))
      · exact j_none
  · exact j_none
set_option maxHeartbeats 4000000 in
set_option maxRecDepth 100000 in
theorem wcase17 {ρ : Type} {E : En} {p : Program} {l : Launch} {e : Env} {s : State} {m : MethodId} {args : Array Value} {below : List Frame} {meth : Method} {c : Code} {Q : ρ → State → Prop} {b Ls k n : Nat} {xs : Nat → Int32} (N : Nat) (C : Cx E 9 p s m args c code RL) (hT : l.stackTraces = false) (hX : Sc E s b Ls xs) (hk : k + 3 ≤ 601024) (hn : n + 18 ≤ 7293034) (x5 : Int32) (K : Hp → Option ρ) (HK : ∀ σ, J E 9 p l e room_1 s m args below meth c Q (K σ) 2228 [(0, .ref b), (1, .ref (ea E 0)), (2, .ref (ea E 84)), (3, .ref (ea E 100)), (4, .ref (ea E 101)), (5, .int x5)] [] σ (k + 3) (n + 18)) (σ : Hp) : J E 9 p l e room_1 s m args below meth c Q (fL_case17 N xs Ls x5 K σ) 1489 [(0, .ref b), (1, .ref (ea E 0)), (2, .ref (ea E 84)), (3, .ref (ea E 100)), (4, .ref (ea E 101)), (5, .int x5)] [] σ k n := by
  unfold fL_case17
  refine j_aload_n 1 C dL_law_1489 rfl rfl ?_
  refine j_aload_n 0 C dL_law_1490 rfl rfl ?_
  refine j_iload 5 C dL_law_1491 rfl ?_
  refine j_iconst (v := 1) 1 C dL_law_1493 (by decide) ?_
  refine j_iadd C dL_law_1494 ?_
  refine j_sld C hX dL_law_1495 ?_
  refine j_aload_n 3 C dL_law_1496 rfl rfl ?_
  refine j_callWI [.ref (ea E 0), .int (xs (x5 + 1).toNatClampNeg), .ref (ea E 100)] (conL_count N (xs (x5 + 1).toNatClampNeg)) C hT miL_count msL_count lkL_183 rfl rfl ⟨Nat.le_of_ble_eq_true rfl, Nat.le_of_ble_eq_true rfl, (by show k + 1 ≤ 601024; omega), (by show n + 6 ≤ 7293034; omega), Nat.le_of_ble_eq_true rfl⟩ dL_law_1497 (fun r1497 σ1497 => ?_)
  refine j_istore [(6, .int r1497), (0, .ref b), (1, .ref (ea E 0)), (2, .ref (ea E 84)), (3, .ref (ea E 100)), (4, .ref (ea E 101)), (5, .int x5)] C dL_law_1500 (by decide) rfl ?_
  refine j_aload_n 3 C dL_law_1502 rfl rfl ?_
  refine j_aload_n 1 C dL_law_1503 rfl rfl ?_
  refine j_iload 6 C dL_law_1504 rfl ?_
  refine j_iconst (v := 1) 1 C dL_law_1506 (by decide) ?_
  refine j_iadd C dL_law_1507 ?_
  refine j_sld C hX dL_law_1508 ?_
  refine j_callVI [.int (xs (x5 + 1).toNatClampNeg)] (con6_count N (xs (x5 + 1).toNatClampNeg)) C mi6_count mv6_count lkL_185 (by decide) (ct_84 E _) rfl rfl rfl ⟨Nat.le_of_ble_eq_true rfl, Nat.le_of_ble_eq_true rfl, (by show k + 1 + 0 ≤ 601024; omega), (by show n + 6 + 0 ≤ 7293034; omega), Nat.le_of_ble_eq_true rfl⟩ dL_law_1509 (fun r1509 σ1509 => ?_)
  refine j_istore [(7, .int r1509), (6, .int r1497), (0, .ref b), (1, .ref (ea E 0)), (2, .ref (ea E 84)), (3, .ref (ea E 100)), (4, .ref (ea E 101)), (5, .int x5)] C dL_law_1512 (by decide) rfl ?_
  refine j_aload_n 4 C dL_law_1514 rfl rfl ?_
  refine j_callVI [] (con6_thrown N) C mi6_thrown mv6_thrown lkL_126 (by decide) (ct_84 E _) rfl rfl rfl ⟨Nat.le_of_ble_eq_true rfl, Nat.le_of_ble_eq_true rfl, (by show k + 1 + 0 + 0 ≤ 601024; omega), (by show n + 6 + 0 + 0 ≤ 7293034; omega), Nat.le_of_ble_eq_true rfl⟩ dL_law_1515 (fun r1515 σ1515 => ?_)
  refine j_iload 1 C dL_law_1518 rfl ?_
  refine j_ieq 1525 C dL_law_1520 (by decide) ?_ ?_
  · refine j_iload 1 C dL_law_1525 rfl ?_
    refine j_zne 1542 C dL_law_1527 (by decide) ?_ ?_
    · refine j_goto 2228 C dL_law_1542 (by decide) ?_
      exact j_sub [2, 3, 4, 5, 6, 7] rfl (j_widen (by show k + 1 + 0 + 0 ≤ k + 3; omega) (by show n + 6 + 0 + 0 ≤ n + 18; omega) (HK σ1515))
    · refine j_aload_n 5 C dL_law_1530 rfl rfl ?_
      refine j_iconst (v := 0) 0 C dL_law_1531 (by decide) ?_
      refine j_lald C dL_law_1532 ?_
      refine j_iload 0 C dL_law_1533 rfl ?_
      refine j_i2l C dL_law_1535 ?_
      refine j_lceq 1542 C dL_law_1536 dL_law_1537 (by decide) ?_ ?_
      · refine j_goto 2228 C dL_law_1542 (by decide) ?_
        exact j_sub [2, 3, 4, 5, 6, 7] rfl (j_widen (by show k + 1 + 0 + 0 ≤ k + 3; omega) (by show n + 6 + 0 + 0 ≤ n + 18; omega) (HK σ1515))
      · exact j_none
  · exact j_none
set_option maxHeartbeats 4000000 in
set_option maxRecDepth 100000 in
theorem wcase18 {ρ : Type} {E : En} {p : Program} {l : Launch} {e : Env} {s : State} {m : MethodId} {args : Array Value} {below : List Frame} {meth : Method} {c : Code} {Q : ρ → State → Prop} {b Ls k n : Nat} {xs : Nat → Int32} (N : Nat) (C : Cx E 9 p s m args c code RL) (hT : l.stackTraces = false) (hX : Sc E s b Ls xs) (hk : k + 3 ≤ 601024) (hn : n + 18 ≤ 7293034) (x5 : Int32) (K : Hp → Option ρ) (HK : ∀ σ, J E 9 p l e room_1 s m args below meth c Q (K σ) 2228 [(0, .ref b), (1, .ref (ea E 0)), (2, .ref (ea E 84)), (3, .ref (ea E 100)), (4, .ref (ea E 101)), (5, .int x5)] [] σ (k + 3) (n + 18)) (σ : Hp) : J E 9 p l e room_1 s m args below meth c Q (fL_case18 N xs Ls x5 K σ) 1545 [(0, .ref b), (1, .ref (ea E 0)), (2, .ref (ea E 84)), (3, .ref (ea E 100)), (4, .ref (ea E 101)), (5, .int x5)] [] σ k n := by
  unfold fL_case18
  refine j_aload_n 1 C dL_law_1545 rfl rfl ?_
  refine j_aload_n 0 C dL_law_1546 rfl rfl ?_
  refine j_iload 5 C dL_law_1547 rfl ?_
  refine j_iconst (v := 1) 1 C dL_law_1549 (by decide) ?_
  refine j_iadd C dL_law_1550 ?_
  refine j_sld C hX dL_law_1551 ?_
  refine j_aload_n 0 C dL_law_1552 rfl rfl ?_
  refine j_iload 5 C dL_law_1553 rfl ?_
  refine j_iconst (v := 2) 2 C dL_law_1555 (by decide) ?_
  refine j_iadd C dL_law_1556 ?_
  refine j_sld C hX dL_law_1557 ?_
  refine j_aload_n 3 C dL_law_1558 rfl rfl ?_
  refine j_callWI [.ref (ea E 0), .int (xs (x5 + 1).toNatClampNeg), .int (xs (x5 + 2).toNatClampNeg), .ref (ea E 100)] (conL_cellCount N (xs (x5 + 1).toNatClampNeg) (xs (x5 + 2).toNatClampNeg)) C hT miL_cellCount msL_cellCount lkL_186 rfl rfl ⟨Nat.le_of_ble_eq_true rfl, Nat.le_of_ble_eq_true rfl, (by show k + 2 ≤ 601024; omega), (by show n + 12 ≤ 7293034; omega), Nat.le_of_ble_eq_true rfl⟩ dL_law_1559 (fun r1559 σ1559 => ?_)
  refine j_istore [(6, .int r1559), (0, .ref b), (1, .ref (ea E 0)), (2, .ref (ea E 84)), (3, .ref (ea E 100)), (4, .ref (ea E 101)), (5, .int x5)] C dL_law_1562 (by decide) rfl ?_
  refine j_aload_n 3 C dL_law_1564 rfl rfl ?_
  refine j_aload_n 1 C dL_law_1565 rfl rfl ?_
  refine j_iload 6 C dL_law_1566 rfl ?_
  refine j_iconst (v := 1) 1 C dL_law_1568 (by decide) ?_
  refine j_iadd C dL_law_1569 ?_
  refine j_sld C hX dL_law_1570 ?_
  refine j_aload_n 1 C dL_law_1571 rfl rfl ?_
  refine j_iload 6 C dL_law_1572 rfl ?_
  refine j_iconst (v := 2) 2 C dL_law_1574 (by decide) ?_
  refine j_iadd C dL_law_1575 ?_
  refine j_sld C hX dL_law_1576 ?_
  refine j_callVI [.int (xs (x5 + 1).toNatClampNeg), .int (xs (x5 + 2).toNatClampNeg)] (con6_cellCount N (xs (x5 + 1).toNatClampNeg) (xs (x5 + 2).toNatClampNeg)) C mi6_cellCount mv6_cellCount lkL_188 (by decide) (ct_84 E _) rfl rfl rfl ⟨Nat.le_of_ble_eq_true rfl, Nat.le_of_ble_eq_true rfl, (by show k + 2 + 0 ≤ 601024; omega), (by show n + 12 + 0 ≤ 7293034; omega), Nat.le_of_ble_eq_true rfl⟩ dL_law_1577 (fun r1577 σ1577 => ?_)
  refine j_istore [(7, .int r1577), (6, .int r1559), (0, .ref b), (1, .ref (ea E 0)), (2, .ref (ea E 84)), (3, .ref (ea E 100)), (4, .ref (ea E 101)), (5, .int x5)] C dL_law_1580 (by decide) rfl ?_
  refine j_aload_n 4 C dL_law_1582 rfl rfl ?_
  refine j_callVI [] (con6_thrown N) C mi6_thrown mv6_thrown lkL_126 (by decide) (ct_84 E _) rfl rfl rfl ⟨Nat.le_of_ble_eq_true rfl, Nat.le_of_ble_eq_true rfl, (by show k + 2 + 0 + 0 ≤ 601024; omega), (by show n + 12 + 0 + 0 ≤ 7293034; omega), Nat.le_of_ble_eq_true rfl⟩ dL_law_1583 (fun r1583 σ1583 => ?_)
  refine j_iload 1 C dL_law_1586 rfl ?_
  refine j_ieq 1593 C dL_law_1588 (by decide) ?_ ?_
  · refine j_iload 1 C dL_law_1593 rfl ?_
    refine j_zne 1610 C dL_law_1595 (by decide) ?_ ?_
    · refine j_goto 2228 C dL_law_1610 (by decide) ?_
      exact j_sub [2, 3, 4, 5, 6, 7] rfl (j_widen (by show k + 2 + 0 + 0 ≤ k + 3; omega) (by show n + 12 + 0 + 0 ≤ n + 18; omega) (HK σ1583))
    · refine j_aload_n 5 C dL_law_1598 rfl rfl ?_
      refine j_iconst (v := 0) 0 C dL_law_1599 (by decide) ?_
      refine j_lald C dL_law_1600 ?_
      refine j_iload 0 C dL_law_1601 rfl ?_
      refine j_i2l C dL_law_1603 ?_
      refine j_lceq 1610 C dL_law_1604 dL_law_1605 (by decide) ?_ ?_
      · refine j_goto 2228 C dL_law_1610 (by decide) ?_
        exact j_sub [2, 3, 4, 5, 6, 7] rfl (j_widen (by show k + 2 + 0 + 0 ≤ k + 3; omega) (by show n + 12 + 0 + 0 ≤ n + 18; omega) (HK σ1583))
      · exact j_none
  · exact j_none
set_option maxHeartbeats 4000000 in
set_option maxRecDepth 100000 in
theorem wcase21 {ρ : Type} {E : En} {p : Program} {l : Launch} {e : Env} {s : State} {m : MethodId} {args : Array Value} {below : List Frame} {meth : Method} {c : Code} {Q : ρ → State → Prop} {b Ls k n : Nat} {xs : Nat → Int32} (N : Nat) (C : Cx E 9 p s m args c code RL) (hT : l.stackTraces = false) (hX : Sc E s b Ls xs) (hk : k + 3 ≤ 601024) (hn : n + 18 ≤ 7293034) (x5 : Int32) (K : Hp → Option ρ) (HK : ∀ σ, J E 9 p l e room_1 s m args below meth c Q (K σ) 2228 [(0, .ref b), (1, .ref (ea E 0)), (2, .ref (ea E 84)), (3, .ref (ea E 100)), (4, .ref (ea E 101)), (5, .int x5)] [] σ (k + 3) (n + 18)) (σ : Hp) : J E 9 p l e room_1 s m args below meth c Q (fL_case21 N xs Ls x5 K σ) 1768 [(0, .ref b), (1, .ref (ea E 0)), (2, .ref (ea E 84)), (3, .ref (ea E 100)), (4, .ref (ea E 101)), (5, .int x5)] [] σ k n := by
  unfold fL_case21
  refine j_aload_n 1 C dL_law_1768 rfl rfl ?_
  refine j_callVI [] (con5_isSound N) C mi5_isSound mv5_isSound lkL_196 (by decide) (ct_0 E _) rfl rfl rfl ⟨Nat.le_of_ble_eq_true rfl, Nat.le_of_ble_eq_true rfl, (by show k + 0 ≤ 601024; omega), (by show n + 0 ≤ 7293034; omega), Nat.le_of_ble_eq_true rfl⟩ dL_law_1769 (fun r1769 σ1769 => ?_)
  refine j_aload_n 2 C dL_law_1772 rfl rfl ?_
  refine j_callVI [] (con6_isSound N) C mi6_isSound mv6_isSound lkL_200 (by decide) (ct_84 E _) rfl rfl rfl ⟨Nat.le_of_ble_eq_true rfl, Nat.le_of_ble_eq_true rfl, (by show k + 0 + 0 ≤ 601024; omega), (by show n + 0 + 0 ≤ 7293034; omega), Nat.le_of_ble_eq_true rfl⟩ dL_law_1773 (fun r1773 σ1773 => ?_)
  refine j_ieq 2228 C dL_law_1776 (by decide) ?_ ?_
  · exact j_sub [0, 1, 2, 3, 4, 5] rfl (j_widen (by show k + 0 + 0 ≤ k + 3; omega) (by show n + 0 + 0 ≤ n + 18; omega) (HK σ1773))
  · exact j_none
set_option maxHeartbeats 4000000 in
set_option maxRecDepth 100000 in
theorem wcase22 {ρ : Type} {E : En} {p : Program} {l : Launch} {e : Env} {s : State} {m : MethodId} {args : Array Value} {below : List Frame} {meth : Method} {c : Code} {Q : ρ → State → Prop} {b Ls k n : Nat} {xs : Nat → Int32} (N : Nat) (C : Cx E 9 p s m args c code RL) (hT : l.stackTraces = false) (hX : Sc E s b Ls xs) (hk : k + 3 ≤ 601024) (hn : n + 18 ≤ 7293034) (x5 : Int32) (K : Hp → Option ρ) (HK : ∀ σ, J E 9 p l e room_1 s m args below meth c Q (K σ) 2228 [(0, .ref b), (1, .ref (ea E 0)), (2, .ref (ea E 84)), (3, .ref (ea E 100)), (4, .ref (ea E 101)), (5, .int x5)] [] σ (k + 3) (n + 18)) (σ : Hp) : J E 9 p l e room_1 s m args below meth c Q (fL_case22 N xs Ls x5 K σ) 1781 [(0, .ref b), (1, .ref (ea E 0)), (2, .ref (ea E 84)), (3, .ref (ea E 100)), (4, .ref (ea E 101)), (5, .int x5)] [] σ k n := by
  unfold fL_case22
  refine j_aload_n 1 C dL_law_1781 rfl rfl ?_
  refine j_aload_n 0 C dL_law_1782 rfl rfl ?_
  refine j_iload 5 C dL_law_1783 rfl ?_
  refine j_iconst (v := 1) 1 C dL_law_1785 (by decide) ?_
  refine j_iadd C dL_law_1786 ?_
  refine j_sld C hX dL_law_1787 ?_
  refine j_aload_n 0 C dL_law_1788 rfl rfl ?_
  refine j_iload 5 C dL_law_1789 rfl ?_
  refine j_iconst (v := 2) 2 C dL_law_1791 (by decide) ?_
  refine j_iadd C dL_law_1792 ?_
  refine j_sld C hX dL_law_1793 ?_
  refine j_aload_n 0 C dL_law_1794 rfl rfl ?_
  refine j_iload 5 C dL_law_1795 rfl ?_
  refine j_iconst (v := 3) 3 C dL_law_1797 (by decide) ?_
  refine j_iadd C dL_law_1798 ?_
  refine j_sld C hX dL_law_1799 ?_
  refine j_zeq 1807 C dL_law_1800 (by decide) ?_ ?_
  · refine j_iconst (v := 0) 0 C dL_law_1807 (by decide) ?_
    refine j_aload_n 0 C dL_law_1808 rfl rfl ?_
    refine j_iload 5 C dL_law_1809 rfl ?_
    refine j_iconst (v := 4) 4 C dL_law_1811 (by decide) ?_
    refine j_iadd C dL_law_1812 ?_
    refine j_sld C hX dL_law_1813 ?_
    refine j_aload_n 3 C dL_law_1814 rfl rfl ?_
    refine j_callWI [.ref (ea E 0), .int (xs (x5 + 1).toNatClampNeg), .int (xs (x5 + 2).toNatClampNeg), .int 0, .int (xs (x5 + 4).toNatClampNeg), .ref (ea E 100)] (conL_layDown N (xs (x5 + 1).toNatClampNeg) (xs (x5 + 2).toNatClampNeg) 0 (xs (x5 + 4).toNatClampNeg)) C hT miL_layDown msL_layDown lkL_201 rfl rfl ⟨Nat.le_of_ble_eq_true rfl, Nat.le_of_ble_eq_true rfl, (by show k + 3 ≤ 601024; omega), (by show n + 18 ≤ 7293034; omega), Nat.le_of_ble_eq_true rfl⟩ dL_law_1815 (fun r1815 σ1815 => ?_)
    refine j_istore [(6, .int r1815), (0, .ref b), (1, .ref (ea E 0)), (2, .ref (ea E 84)), (3, .ref (ea E 100)), (4, .ref (ea E 101)), (5, .int x5)] C dL_law_1818 (by decide) rfl ?_
    refine j_aload_n 3 C dL_law_1820 rfl rfl ?_
    refine j_aload_n 1 C dL_law_1821 rfl rfl ?_
    refine j_iload 6 C dL_law_1822 rfl ?_
    refine j_iconst (v := 1) 1 C dL_law_1824 (by decide) ?_
    refine j_iadd C dL_law_1825 ?_
    refine j_sld C hX dL_law_1826 ?_
    refine j_aload_n 1 C dL_law_1827 rfl rfl ?_
    refine j_iload 6 C dL_law_1828 rfl ?_
    refine j_iconst (v := 2) 2 C dL_law_1830 (by decide) ?_
    refine j_iadd C dL_law_1831 ?_
    refine j_sld C hX dL_law_1832 ?_
    refine j_aload_n 1 C dL_law_1833 rfl rfl ?_
    refine j_iload 6 C dL_law_1834 rfl ?_
    refine j_iconst (v := 3) 3 C dL_law_1836 (by decide) ?_
    refine j_iadd C dL_law_1837 ?_
    refine j_sld C hX dL_law_1838 ?_
    refine j_zeq 1846 C dL_law_1839 (by decide) ?_ ?_
    · refine j_iconst (v := 0) 0 C dL_law_1846 (by decide) ?_
      refine j_aload_n 1 C dL_law_1847 rfl rfl ?_
      refine j_iload 6 C dL_law_1848 rfl ?_
      refine j_iconst (v := 4) 4 C dL_law_1850 (by decide) ?_
      refine j_iadd C dL_law_1851 ?_
      refine j_sld C hX dL_law_1852 ?_
      refine j_callVI [.int (xs (x5 + 1).toNatClampNeg), .int (xs (x5 + 2).toNatClampNeg), .int 0, .int (xs (x5 + 4).toNatClampNeg)] (con6_layDown N (xs (x5 + 1).toNatClampNeg) (xs (x5 + 2).toNatClampNeg) 0 (xs (x5 + 4).toNatClampNeg)) C mi6_layDown mv6_layDown lkL_204 (by decide) (ct_84 E _) rfl rfl rfl ⟨Nat.le_of_ble_eq_true rfl, Nat.le_of_ble_eq_true rfl, (by show k + 3 + 0 ≤ 601024; omega), (by show n + 18 + 0 ≤ 7293034; omega), Nat.le_of_ble_eq_true rfl⟩ dL_law_1853 (fun r1853 σ1853 => ?_)
      refine j_istore [(7, .int r1853), (6, .int r1815), (0, .ref b), (1, .ref (ea E 0)), (2, .ref (ea E 84)), (3, .ref (ea E 100)), (4, .ref (ea E 101)), (5, .int x5)] C dL_law_1856 (by decide) rfl ?_
      refine j_aload_n 4 C dL_law_1858 rfl rfl ?_
      refine j_callVI [] (con6_thrown N) C mi6_thrown mv6_thrown lkL_126 (by decide) (ct_84 E _) rfl rfl rfl ⟨Nat.le_of_ble_eq_true rfl, Nat.le_of_ble_eq_true rfl, (by show k + 3 + 0 + 0 ≤ 601024; omega), (by show n + 18 + 0 + 0 ≤ 7293034; omega), Nat.le_of_ble_eq_true rfl⟩ dL_law_1859 (fun r1859 σ1859 => ?_)
      refine j_iload 1 C dL_law_1862 rfl ?_
      refine j_ieq 1869 C dL_law_1864 (by decide) ?_ ?_
      · refine j_iload 1 C dL_law_1869 rfl ?_
        refine j_zne 1886 C dL_law_1871 (by decide) ?_ ?_
        · refine j_goto 2228 C dL_law_1886 (by decide) ?_
          exact j_sub [2, 3, 4, 5, 6, 7] rfl (j_widen (by show k + 3 + 0 + 0 ≤ k + 3; omega) (by show n + 18 + 0 + 0 ≤ n + 18; omega) (HK σ1859))
        · refine j_aload_n 5 C dL_law_1874 rfl rfl ?_
          refine j_iconst (v := 0) 0 C dL_law_1875 (by decide) ?_
          refine j_lald C dL_law_1876 ?_
          refine j_iload 0 C dL_law_1877 rfl ?_
          refine j_i2l C dL_law_1879 ?_
          refine j_lceq 1886 C dL_law_1880 dL_law_1881 (by decide) ?_ ?_
          · refine j_goto 2228 C dL_law_1886 (by decide) ?_
            exact j_sub [2, 3, 4, 5, 6, 7] rfl (j_widen (by show k + 3 + 0 + 0 ≤ k + 3; omega) (by show n + 18 + 0 + 0 ≤ n + 18; omega) (HK σ1859))
          · exact j_none
      · exact j_none
    · refine j_iconst (v := 1) 1 C dL_law_1842 (by decide) ?_
      refine j_goto 1847 C dL_law_1843 (by decide) ?_
      refine j_aload_n 1 C dL_law_1847 rfl rfl ?_
      refine j_iload 6 C dL_law_1848 rfl ?_
      refine j_iconst (v := 4) 4 C dL_law_1850 (by decide) ?_
      refine j_iadd C dL_law_1851 ?_
      refine j_sld C hX dL_law_1852 ?_
      refine j_callVI [.int (xs (x5 + 1).toNatClampNeg), .int (xs (x5 + 2).toNatClampNeg), .int 1, .int (xs (x5 + 4).toNatClampNeg)] (con6_layDown N (xs (x5 + 1).toNatClampNeg) (xs (x5 + 2).toNatClampNeg) 1 (xs (x5 + 4).toNatClampNeg)) C mi6_layDown mv6_layDown lkL_204 (by decide) (ct_84 E _) rfl rfl rfl ⟨Nat.le_of_ble_eq_true rfl, Nat.le_of_ble_eq_true rfl, (by show k + 3 + 0 ≤ 601024; omega), (by show n + 18 + 0 ≤ 7293034; omega), Nat.le_of_ble_eq_true rfl⟩ dL_law_1853 (fun r1853 σ1853 => ?_)
      refine j_istore [(7, .int r1853), (6, .int r1815), (0, .ref b), (1, .ref (ea E 0)), (2, .ref (ea E 84)), (3, .ref (ea E 100)), (4, .ref (ea E 101)), (5, .int x5)] C dL_law_1856 (by decide) rfl ?_
      refine j_aload_n 4 C dL_law_1858 rfl rfl ?_
      refine j_callVI [] (con6_thrown N) C mi6_thrown mv6_thrown lkL_126 (by decide) (ct_84 E _) rfl rfl rfl ⟨Nat.le_of_ble_eq_true rfl, Nat.le_of_ble_eq_true rfl, (by show k + 3 + 0 + 0 ≤ 601024; omega), (by show n + 18 + 0 + 0 ≤ 7293034; omega), Nat.le_of_ble_eq_true rfl⟩ dL_law_1859 (fun r1859 σ1859 => ?_)
      refine j_iload 1 C dL_law_1862 rfl ?_
      refine j_ieq 1869 C dL_law_1864 (by decide) ?_ ?_
      · refine j_iload 1 C dL_law_1869 rfl ?_
        refine j_zne 1886 C dL_law_1871 (by decide) ?_ ?_
        · refine j_goto 2228 C dL_law_1886 (by decide) ?_
          exact j_sub [2, 3, 4, 5, 6, 7] rfl (j_widen (by show k + 3 + 0 + 0 ≤ k + 3; omega) (by show n + 18 + 0 + 0 ≤ n + 18; omega) (HK σ1859))
        · refine j_aload_n 5 C dL_law_1874 rfl rfl ?_
          refine j_iconst (v := 0) 0 C dL_law_1875 (by decide) ?_
          refine j_lald C dL_law_1876 ?_
          refine j_iload 0 C dL_law_1877 rfl ?_
          refine j_i2l C dL_law_1879 ?_
          refine j_lceq 1886 C dL_law_1880 dL_law_1881 (by decide) ?_ ?_
          · refine j_goto 2228 C dL_law_1886 (by decide) ?_
            exact j_sub [2, 3, 4, 5, 6, 7] rfl (j_widen (by show k + 3 + 0 + 0 ≤ k + 3; omega) (by show n + 18 + 0 + 0 ≤ n + 18; omega) (HK σ1859))
          · exact j_none
      · exact j_none
  · refine j_iconst (v := 1) 1 C dL_law_1803 (by decide) ?_
    refine j_goto 1808 C dL_law_1804 (by decide) ?_
    refine j_aload_n 0 C dL_law_1808 rfl rfl ?_
    refine j_iload 5 C dL_law_1809 rfl ?_
    refine j_iconst (v := 4) 4 C dL_law_1811 (by decide) ?_
    refine j_iadd C dL_law_1812 ?_
    refine j_sld C hX dL_law_1813 ?_
    refine j_aload_n 3 C dL_law_1814 rfl rfl ?_
    refine j_callWI [.ref (ea E 0), .int (xs (x5 + 1).toNatClampNeg), .int (xs (x5 + 2).toNatClampNeg), .int 1, .int (xs (x5 + 4).toNatClampNeg), .ref (ea E 100)] (conL_layDown N (xs (x5 + 1).toNatClampNeg) (xs (x5 + 2).toNatClampNeg) 1 (xs (x5 + 4).toNatClampNeg)) C hT miL_layDown msL_layDown lkL_201 rfl rfl ⟨Nat.le_of_ble_eq_true rfl, Nat.le_of_ble_eq_true rfl, (by show k + 3 ≤ 601024; omega), (by show n + 18 ≤ 7293034; omega), Nat.le_of_ble_eq_true rfl⟩ dL_law_1815 (fun r1815 σ1815 => ?_)
    refine j_istore [(6, .int r1815), (0, .ref b), (1, .ref (ea E 0)), (2, .ref (ea E 84)), (3, .ref (ea E 100)), (4, .ref (ea E 101)), (5, .int x5)] C dL_law_1818 (by decide) rfl ?_
    refine j_aload_n 3 C dL_law_1820 rfl rfl ?_
    refine j_aload_n 1 C dL_law_1821 rfl rfl ?_
    refine j_iload 6 C dL_law_1822 rfl ?_
    refine j_iconst (v := 1) 1 C dL_law_1824 (by decide) ?_
    refine j_iadd C dL_law_1825 ?_
    refine j_sld C hX dL_law_1826 ?_
    refine j_aload_n 1 C dL_law_1827 rfl rfl ?_
    refine j_iload 6 C dL_law_1828 rfl ?_
    refine j_iconst (v := 2) 2 C dL_law_1830 (by decide) ?_
    refine j_iadd C dL_law_1831 ?_
    refine j_sld C hX dL_law_1832 ?_
    refine j_aload_n 1 C dL_law_1833 rfl rfl ?_
    refine j_iload 6 C dL_law_1834 rfl ?_
    refine j_iconst (v := 3) 3 C dL_law_1836 (by decide) ?_
    refine j_iadd C dL_law_1837 ?_
    refine j_sld C hX dL_law_1838 ?_
    refine j_zeq 1846 C dL_law_1839 (by decide) ?_ ?_
    · refine j_iconst (v := 0) 0 C dL_law_1846 (by decide) ?_
      refine j_aload_n 1 C dL_law_1847 rfl rfl ?_
      refine j_iload 6 C dL_law_1848 rfl ?_
      refine j_iconst (v := 4) 4 C dL_law_1850 (by decide) ?_
      refine j_iadd C dL_law_1851 ?_
      refine j_sld C hX dL_law_1852 ?_
      refine j_callVI [.int (xs (x5 + 1).toNatClampNeg), .int (xs (x5 + 2).toNatClampNeg), .int 0, .int (xs (x5 + 4).toNatClampNeg)] (con6_layDown N (xs (x5 + 1).toNatClampNeg) (xs (x5 + 2).toNatClampNeg) 0 (xs (x5 + 4).toNatClampNeg)) C mi6_layDown mv6_layDown lkL_204 (by decide) (ct_84 E _) rfl rfl rfl ⟨Nat.le_of_ble_eq_true rfl, Nat.le_of_ble_eq_true rfl, (by show k + 3 + 0 ≤ 601024; omega), (by show n + 18 + 0 ≤ 7293034; omega), Nat.le_of_ble_eq_true rfl⟩ dL_law_1853 (fun r1853 σ1853 => ?_)
      refine j_istore [(7, .int r1853), (6, .int r1815), (0, .ref b), (1, .ref (ea E 0)), (2, .ref (ea E 84)), (3, .ref (ea E 100)), (4, .ref (ea E 101)), (5, .int x5)] C dL_law_1856 (by decide) rfl ?_
      refine j_aload_n 4 C dL_law_1858 rfl rfl ?_
      refine j_callVI [] (con6_thrown N) C mi6_thrown mv6_thrown lkL_126 (by decide) (ct_84 E _) rfl rfl rfl ⟨Nat.le_of_ble_eq_true rfl, Nat.le_of_ble_eq_true rfl, (by show k + 3 + 0 + 0 ≤ 601024; omega), (by show n + 18 + 0 + 0 ≤ 7293034; omega), Nat.le_of_ble_eq_true rfl⟩ dL_law_1859 (fun r1859 σ1859 => ?_)
      refine j_iload 1 C dL_law_1862 rfl ?_
      refine j_ieq 1869 C dL_law_1864 (by decide) ?_ ?_
      · refine j_iload 1 C dL_law_1869 rfl ?_
        refine j_zne 1886 C dL_law_1871 (by decide) ?_ ?_
        · refine j_goto 2228 C dL_law_1886 (by decide) ?_
          exact j_sub [2, 3, 4, 5, 6, 7] rfl (j_widen (by show k + 3 + 0 + 0 ≤ k + 3; omega) (by show n + 18 + 0 + 0 ≤ n + 18; omega) (HK σ1859))
        · refine j_aload_n 5 C dL_law_1874 rfl rfl ?_
          refine j_iconst (v := 0) 0 C dL_law_1875 (by decide) ?_
          refine j_lald C dL_law_1876 ?_
          refine j_iload 0 C dL_law_1877 rfl ?_
          refine j_i2l C dL_law_1879 ?_
          refine j_lceq 1886 C dL_law_1880 dL_law_1881 (by decide) ?_ ?_
          · refine j_goto 2228 C dL_law_1886 (by decide) ?_
            exact j_sub [2, 3, 4, 5, 6, 7] rfl (j_widen (by show k + 3 + 0 + 0 ≤ k + 3; omega) (by show n + 18 + 0 + 0 ≤ n + 18; omega) (HK σ1859))
          · exact j_none
      · exact j_none
    · refine j_iconst (v := 1) 1 C dL_law_1842 (by decide) ?_
      refine j_goto 1847 C dL_law_1843 (by decide) ?_
      refine j_aload_n 1 C dL_law_1847 rfl rfl ?_
      refine j_iload 6 C dL_law_1848 rfl ?_
      refine j_iconst (v := 4) 4 C dL_law_1850 (by decide) ?_
      refine j_iadd C dL_law_1851 ?_
      refine j_sld C hX dL_law_1852 ?_
      refine j_callVI [.int (xs (x5 + 1).toNatClampNeg), .int (xs (x5 + 2).toNatClampNeg), .int 1, .int (xs (x5 + 4).toNatClampNeg)] (con6_layDown N (xs (x5 + 1).toNatClampNeg) (xs (x5 + 2).toNatClampNeg) 1 (xs (x5 + 4).toNatClampNeg)) C mi6_layDown mv6_layDown lkL_204 (by decide) (ct_84 E _) rfl rfl rfl ⟨Nat.le_of_ble_eq_true rfl, Nat.le_of_ble_eq_true rfl, (by show k + 3 + 0 ≤ 601024; omega), (by show n + 18 + 0 ≤ 7293034; omega), Nat.le_of_ble_eq_true rfl⟩ dL_law_1853 (fun r1853 σ1853 => ?_)
      refine j_istore [(7, .int r1853), (6, .int r1815), (0, .ref b), (1, .ref (ea E 0)), (2, .ref (ea E 84)), (3, .ref (ea E 100)), (4, .ref (ea E 101)), (5, .int x5)] C dL_law_1856 (by decide) rfl ?_
      refine j_aload_n 4 C dL_law_1858 rfl rfl ?_
      refine j_callVI [] (con6_thrown N) C mi6_thrown mv6_thrown lkL_126 (by decide) (ct_84 E _) rfl rfl rfl ⟨Nat.le_of_ble_eq_true rfl, Nat.le_of_ble_eq_true rfl, (by show k + 3 + 0 + 0 ≤ 601024; omega), (by show n + 18 + 0 + 0 ≤ 7293034; omega), Nat.le_of_ble_eq_true rfl⟩ dL_law_1859 (fun r1859 σ1859 => ?_)
      refine j_iload 1 C dL_law_1862 rfl ?_
      refine j_ieq 1869 C dL_law_1864 (by decide) ?_ ?_
      · refine j_iload 1 C dL_law_1869 rfl ?_
        refine j_zne 1886 C dL_law_1871 (by decide) ?_ ?_
        · refine j_goto 2228 C dL_law_1886 (by decide) ?_
          exact j_sub [2, 3, 4, 5, 6, 7] rfl (j_widen (by show k + 3 + 0 + 0 ≤ k + 3; omega) (by show n + 18 + 0 + 0 ≤ n + 18; omega) (HK σ1859))
        · refine j_aload_n 5 C dL_law_1874 rfl rfl ?_
          refine j_iconst (v := 0) 0 C dL_law_1875 (by decide) ?_
          refine j_lald C dL_law_1876 ?_
          refine j_iload 0 C dL_law_1877 rfl ?_
          refine j_i2l C dL_law_1879 ?_
          refine j_lceq 1886 C dL_law_1880 dL_law_1881 (by decide) ?_ ?_
          · refine j_goto 2228 C dL_law_1886 (by decide) ?_
            exact j_sub [2, 3, 4, 5, 6, 7] rfl (j_widen (by show k + 3 + 0 + 0 ≤ k + 3; omega) (by show n + 18 + 0 + 0 ≤ n + 18; omega) (HK σ1859))
          · exact j_none
      · exact j_none
set_option maxHeartbeats 4000000 in
set_option maxRecDepth 100000 in
theorem wcase23 {ρ : Type} {E : En} {p : Program} {l : Launch} {e : Env} {s : State} {m : MethodId} {args : Array Value} {below : List Frame} {meth : Method} {c : Code} {Q : ρ → State → Prop} {b Ls k n : Nat} {xs : Nat → Int32} (N : Nat) (C : Cx E 9 p s m args c code RL) (hT : l.stackTraces = false) (hX : Sc E s b Ls xs) (hk : k + 3 ≤ 601024) (hn : n + 18 ≤ 7293034) (x5 : Int32) (K : Hp → Option ρ) (HK : ∀ σ, J E 9 p l e room_1 s m args below meth c Q (K σ) 2228 [(0, .ref b), (1, .ref (ea E 0)), (2, .ref (ea E 84)), (3, .ref (ea E 100)), (4, .ref (ea E 101)), (5, .int x5)] [] σ (k + 3) (n + 18)) (σ : Hp) : J E 9 p l e room_1 s m args below meth c Q (fL_case23 N xs Ls x5 K σ) 1889 [(0, .ref b), (1, .ref (ea E 0)), (2, .ref (ea E 84)), (3, .ref (ea E 100)), (4, .ref (ea E 101)), (5, .int x5)] [] σ k n := by
  unfold fL_case23
  refine j_aload_n 1 C dL_law_1889 rfl rfl ?_
  refine j_aload_n 0 C dL_law_1890 rfl rfl ?_
  refine j_iload 5 C dL_law_1891 rfl ?_
  refine j_iconst (v := 1) 1 C dL_law_1893 (by decide) ?_
  refine j_iadd C dL_law_1894 ?_
  refine j_sld C hX dL_law_1895 ?_
  refine j_aload_n 0 C dL_law_1896 rfl rfl ?_
  refine j_iload 5 C dL_law_1897 rfl ?_
  refine j_iconst (v := 2) 2 C dL_law_1899 (by decide) ?_
  refine j_iadd C dL_law_1900 ?_
  refine j_sld C hX dL_law_1901 ?_
  refine j_aload_n 3 C dL_law_1902 rfl rfl ?_
  refine j_callWI [.ref (ea E 0), .int (xs (x5 + 1).toNatClampNeg), .int (xs (x5 + 2).toNatClampNeg), .ref (ea E 100)] (conL_takeUp N (xs (x5 + 1).toNatClampNeg) (xs (x5 + 2).toNatClampNeg)) C hT miL_takeUp msL_takeUp lkL_205 rfl rfl ⟨Nat.le_of_ble_eq_true rfl, Nat.le_of_ble_eq_true rfl, (by show k + 2 ≤ 601024; omega), (by show n + 12 ≤ 7293034; omega), Nat.le_of_ble_eq_true rfl⟩ dL_law_1903 (fun r1903 σ1903 => ?_)
  refine j_istore [(6, .int r1903), (0, .ref b), (1, .ref (ea E 0)), (2, .ref (ea E 84)), (3, .ref (ea E 100)), (4, .ref (ea E 101)), (5, .int x5)] C dL_law_1906 (by decide) rfl ?_
  refine j_aload_n 3 C dL_law_1908 rfl rfl ?_
  refine j_aload_n 1 C dL_law_1909 rfl rfl ?_
  refine j_iload 6 C dL_law_1910 rfl ?_
  refine j_iconst (v := 1) 1 C dL_law_1912 (by decide) ?_
  refine j_iadd C dL_law_1913 ?_
  refine j_sld C hX dL_law_1914 ?_
  refine j_aload_n 1 C dL_law_1915 rfl rfl ?_
  refine j_iload 6 C dL_law_1916 rfl ?_
  refine j_iconst (v := 2) 2 C dL_law_1918 (by decide) ?_
  refine j_iadd C dL_law_1919 ?_
  refine j_sld C hX dL_law_1920 ?_
  refine j_callVI [.int (xs (x5 + 1).toNatClampNeg), .int (xs (x5 + 2).toNatClampNeg)] (con6_takeUp N (xs (x5 + 1).toNatClampNeg) (xs (x5 + 2).toNatClampNeg)) C mi6_takeUp mv6_takeUp lkL_207 (by decide) (ct_84 E _) rfl rfl rfl ⟨Nat.le_of_ble_eq_true rfl, Nat.le_of_ble_eq_true rfl, (by show k + 2 + 0 ≤ 601024; omega), (by show n + 12 + 0 ≤ 7293034; omega), Nat.le_of_ble_eq_true rfl⟩ dL_law_1921 (fun r1921 σ1921 => ?_)
  refine j_istore [(7, .int r1921), (6, .int r1903), (0, .ref b), (1, .ref (ea E 0)), (2, .ref (ea E 84)), (3, .ref (ea E 100)), (4, .ref (ea E 101)), (5, .int x5)] C dL_law_1924 (by decide) rfl ?_
  refine j_aload_n 4 C dL_law_1926 rfl rfl ?_
  refine j_callVI [] (con6_thrown N) C mi6_thrown mv6_thrown lkL_126 (by decide) (ct_84 E _) rfl rfl rfl ⟨Nat.le_of_ble_eq_true rfl, Nat.le_of_ble_eq_true rfl, (by show k + 2 + 0 + 0 ≤ 601024; omega), (by show n + 12 + 0 + 0 ≤ 7293034; omega), Nat.le_of_ble_eq_true rfl⟩ dL_law_1927 (fun r1927 σ1927 => ?_)
  refine j_iload 1 C dL_law_1930 rfl ?_
  refine j_ieq 1937 C dL_law_1932 (by decide) ?_ ?_
  · refine j_iload 1 C dL_law_1937 rfl ?_
    refine j_zne 1954 C dL_law_1939 (by decide) ?_ ?_
    · refine j_goto 2228 C dL_law_1954 (by decide) ?_
      exact j_sub [2, 3, 4, 5, 6, 7] rfl (j_widen (by show k + 2 + 0 + 0 ≤ k + 3; omega) (by show n + 12 + 0 + 0 ≤ n + 18; omega) (HK σ1927))
    · refine j_aload_n 5 C dL_law_1942 rfl rfl ?_
      refine j_iconst (v := 0) 0 C dL_law_1943 (by decide) ?_
      refine j_lald C dL_law_1944 ?_
      refine j_iload 0 C dL_law_1945 rfl ?_
      refine j_i2l C dL_law_1947 ?_
      refine j_lceq 1954 C dL_law_1948 dL_law_1949 (by decide) ?_ ?_
      · refine j_goto 2228 C dL_law_1954 (by decide) ?_
        exact j_sub [2, 3, 4, 5, 6, 7] rfl (j_widen (by show k + 2 + 0 + 0 ≤ k + 3; omega) (by show n + 12 + 0 + 0 ≤ n + 18; omega) (HK σ1927))
      · exact j_none
  · exact j_none
set_option maxHeartbeats 4000000 in
set_option maxRecDepth 100000 in
theorem wcase24 {ρ : Type} {E : En} {p : Program} {l : Launch} {e : Env} {s : State} {m : MethodId} {args : Array Value} {below : List Frame} {meth : Method} {c : Code} {Q : ρ → State → Prop} {b Ls k n : Nat} {xs : Nat → Int32} (N : Nat) (C : Cx E 9 p s m args c code RL) (hT : l.stackTraces = false) (hX : Sc E s b Ls xs) (hk : k + 3 ≤ 601024) (hn : n + 18 ≤ 7293034) (x5 : Int32) (K : Hp → Option ρ) (HK : ∀ σ, J E 9 p l e room_1 s m args below meth c Q (K σ) 2228 [(0, .ref b), (1, .ref (ea E 0)), (2, .ref (ea E 84)), (3, .ref (ea E 100)), (4, .ref (ea E 101)), (5, .int x5)] [] σ (k + 3) (n + 18)) (σ : Hp) : J E 9 p l e room_1 s m args below meth c Q (fL_case24 N xs Ls x5 K σ) 1957 [(0, .ref b), (1, .ref (ea E 0)), (2, .ref (ea E 84)), (3, .ref (ea E 100)), (4, .ref (ea E 101)), (5, .int x5)] [] σ k n := by
  unfold fL_case24
  refine j_aload_n 1 C dL_law_1957 rfl rfl ?_
  refine j_aload_n 0 C dL_law_1958 rfl rfl ?_
  refine j_iload 5 C dL_law_1959 rfl ?_
  refine j_iconst (v := 1) 1 C dL_law_1961 (by decide) ?_
  refine j_iadd C dL_law_1962 ?_
  refine j_sld C hX dL_law_1963 ?_
  refine j_i2c C dL_law_1964 ?_
  refine j_aload_n 3 C dL_law_1965 rfl rfl ?_
  refine j_callWI [.ref (ea E 0), .int (((xs (x5 + 1).toNatClampNeg).toUInt32 % 65536).toInt32), .ref (ea E 100)] (conL_feed N (((xs (x5 + 1).toNatClampNeg).toUInt32 % 65536).toInt32)) C hT miL_feed msL_feed lkL_208 rfl rfl ⟨Nat.le_of_ble_eq_true rfl, Nat.le_of_ble_eq_true rfl, (by show k + 1 ≤ 601024; omega), (by show n + 6 ≤ 7293034; omega), Nat.le_of_ble_eq_true rfl⟩ dL_law_1966 (fun r1966 σ1966 => ?_)
  refine j_istore [(6, .int r1966), (0, .ref b), (1, .ref (ea E 0)), (2, .ref (ea E 84)), (3, .ref (ea E 100)), (4, .ref (ea E 101)), (5, .int x5)] C dL_law_1969 (by decide) rfl ?_
  refine j_aload_n 3 C dL_law_1971 rfl rfl ?_
  refine j_aload_n 1 C dL_law_1972 rfl rfl ?_
  refine j_iload 6 C dL_law_1973 rfl ?_
  refine j_iconst (v := 1) 1 C dL_law_1975 (by decide) ?_
  refine j_iadd C dL_law_1976 ?_
  refine j_sld C hX dL_law_1977 ?_
  refine j_i2c C dL_law_1978 ?_
  refine j_callVI [.int (((xs (x5 + 1).toNatClampNeg).toUInt32 % 65536).toInt32)] (con6_feed N (((xs (x5 + 1).toNatClampNeg).toUInt32 % 65536).toInt32)) C mi6_feed mv6_feed lkL_211 (by decide) (ct_84 E _) rfl rfl rfl ⟨Nat.le_of_ble_eq_true rfl, Nat.le_of_ble_eq_true rfl, (by show k + 1 + 0 ≤ 601024; omega), (by show n + 6 + 0 ≤ 7293034; omega), Nat.le_of_ble_eq_true rfl⟩ dL_law_1979 (fun r1979 σ1979 => ?_)
  refine j_istore [(7, .int r1979), (6, .int r1966), (0, .ref b), (1, .ref (ea E 0)), (2, .ref (ea E 84)), (3, .ref (ea E 100)), (4, .ref (ea E 101)), (5, .int x5)] C dL_law_1982 (by decide) rfl ?_
  refine j_aload_n 4 C dL_law_1984 rfl rfl ?_
  refine j_callVI [] (con6_thrown N) C mi6_thrown mv6_thrown lkL_126 (by decide) (ct_84 E _) rfl rfl rfl ⟨Nat.le_of_ble_eq_true rfl, Nat.le_of_ble_eq_true rfl, (by show k + 1 + 0 + 0 ≤ 601024; omega), (by show n + 6 + 0 + 0 ≤ 7293034; omega), Nat.le_of_ble_eq_true rfl⟩ dL_law_1985 (fun r1985 σ1985 => ?_)
  refine j_iload 1 C dL_law_1988 rfl ?_
  refine j_ieq 1995 C dL_law_1990 (by decide) ?_ ?_
  · refine j_iload 1 C dL_law_1995 rfl ?_
    refine j_zne 2012 C dL_law_1997 (by decide) ?_ ?_
    · refine j_goto 2228 C dL_law_2012 (by decide) ?_
      exact j_sub [2, 3, 4, 5, 6, 7] rfl (j_widen (by show k + 1 + 0 + 0 ≤ k + 3; omega) (by show n + 6 + 0 + 0 ≤ n + 18; omega) (HK σ1985))
    · refine j_aload_n 5 C dL_law_2000 rfl rfl ?_
      refine j_iconst (v := 0) 0 C dL_law_2001 (by decide) ?_
      refine j_lald C dL_law_2002 ?_
      refine j_iload 0 C dL_law_2003 rfl ?_
      refine j_i2l C dL_law_2005 ?_
      refine j_lceq 2012 C dL_law_2006 dL_law_2007 (by decide) ?_ ?_
      · refine j_goto 2228 C dL_law_2012 (by decide) ?_
        exact j_sub [2, 3, 4, 5, 6, 7] rfl (j_widen (by show k + 1 + 0 + 0 ≤ k + 3; omega) (by show n + 6 + 0 + 0 ≤ n + 18; omega) (HK σ1985))
      · exact j_none
  · exact j_none
set_option maxHeartbeats 4000000 in
set_option maxRecDepth 100000 in
theorem wcase25 {ρ : Type} {E : En} {p : Program} {l : Launch} {e : Env} {s : State} {m : MethodId} {args : Array Value} {below : List Frame} {meth : Method} {c : Code} {Q : ρ → State → Prop} {b Ls k n : Nat} {xs : Nat → Int32} (N : Nat) (C : Cx E 9 p s m args c code RL) (hT : l.stackTraces = false) (hX : Sc E s b Ls xs) (hk : k + 3 ≤ 601024) (hn : n + 18 ≤ 7293034) (x5 : Int32) (K : Hp → Option ρ) (HK : ∀ σ, J E 9 p l e room_1 s m args below meth c Q (K σ) 2228 [(0, .ref b), (1, .ref (ea E 0)), (2, .ref (ea E 84)), (3, .ref (ea E 100)), (4, .ref (ea E 101)), (5, .int x5)] [] σ (k + 3) (n + 18)) (σ : Hp) : J E 9 p l e room_1 s m args below meth c Q (fL_case25 N xs Ls x5 K σ) 2015 [(0, .ref b), (1, .ref (ea E 0)), (2, .ref (ea E 84)), (3, .ref (ea E 100)), (4, .ref (ea E 101)), (5, .int x5)] [] σ k n := by
  unfold fL_case25
  refine j_aload_n 1 C dL_law_2015 rfl rfl ?_
  refine j_aload_n 3 C dL_law_2016 rfl rfl ?_
  refine j_callWI [.ref (ea E 0), .ref (ea E 100)] (conL_perform N) C hT miL_perform msL_perform lkL_212 rfl rfl ⟨Nat.le_of_ble_eq_true rfl, Nat.le_of_ble_eq_true rfl, (by show k + 1 ≤ 601024; omega), (by show n + 6 ≤ 7293034; omega), Nat.le_of_ble_eq_true rfl⟩ dL_law_2017 (fun r2017 σ2017 => ?_)
  refine j_istore [(6, .int r2017), (0, .ref b), (1, .ref (ea E 0)), (2, .ref (ea E 84)), (3, .ref (ea E 100)), (4, .ref (ea E 101)), (5, .int x5)] C dL_law_2020 (by decide) rfl ?_
  refine j_aload_n 3 C dL_law_2022 rfl rfl ?_
  refine j_callVI [] (con6_perform N) C mi6_perform mv6_perform lkL_215 (by decide) (ct_84 E _) rfl rfl rfl ⟨Nat.le_of_ble_eq_true rfl, Nat.le_of_ble_eq_true rfl, (by show k + 1 + 0 ≤ 601024; omega), (by show n + 6 + 0 ≤ 7293034; omega), Nat.le_of_ble_eq_true rfl⟩ dL_law_2023 (fun r2023 σ2023 => ?_)
  refine j_istore [(7, .int r2023), (6, .int r2017), (0, .ref b), (1, .ref (ea E 0)), (2, .ref (ea E 84)), (3, .ref (ea E 100)), (4, .ref (ea E 101)), (5, .int x5)] C dL_law_2026 (by decide) rfl ?_
  refine j_aload_n 4 C dL_law_2028 rfl rfl ?_
  refine j_callVI [] (con6_thrown N) C mi6_thrown mv6_thrown lkL_126 (by decide) (ct_84 E _) rfl rfl rfl ⟨Nat.le_of_ble_eq_true rfl, Nat.le_of_ble_eq_true rfl, (by show k + 1 + 0 + 0 ≤ 601024; omega), (by show n + 6 + 0 + 0 ≤ 7293034; omega), Nat.le_of_ble_eq_true rfl⟩ dL_law_2029 (fun r2029 σ2029 => ?_)
  refine j_iload 1 C dL_law_2032 rfl ?_
  refine j_ieq 2039 C dL_law_2034 (by decide) ?_ ?_
  · refine j_iload 1 C dL_law_2039 rfl ?_
    refine j_zne 2056 C dL_law_2041 (by decide) ?_ ?_
    · refine j_goto 2228 C dL_law_2056 (by decide) ?_
      exact j_sub [2, 3, 4, 5, 6, 7] rfl (j_widen (by show k + 1 + 0 + 0 ≤ k + 3; omega) (by show n + 6 + 0 + 0 ≤ n + 18; omega) (HK σ2029))
    · refine j_aload_n 5 C dL_law_2044 rfl rfl ?_
      refine j_iconst (v := 0) 0 C dL_law_2045 (by decide) ?_
      refine j_lald C dL_law_2046 ?_
      refine j_iload 0 C dL_law_2047 rfl ?_
      refine j_i2l C dL_law_2049 ?_
      refine j_lceq 2056 C dL_law_2050 dL_law_2051 (by decide) ?_ ?_
      · refine j_goto 2228 C dL_law_2056 (by decide) ?_
        exact j_sub [2, 3, 4, 5, 6, 7] rfl (j_widen (by show k + 1 + 0 + 0 ≤ k + 3; omega) (by show n + 6 + 0 + 0 ≤ n + 18; omega) (HK σ2029))
      · exact j_none
  · exact j_none
set_option maxHeartbeats 4000000 in
set_option maxRecDepth 100000 in
theorem wcase26 {ρ : Type} {E : En} {p : Program} {l : Launch} {e : Env} {s : State} {m : MethodId} {args : Array Value} {below : List Frame} {meth : Method} {c : Code} {Q : ρ → State → Prop} {b Ls k n : Nat} {xs : Nat → Int32} (N : Nat) (C : Cx E 9 p s m args c code RL) (hT : l.stackTraces = false) (hX : Sc E s b Ls xs) (hk : k + 3 ≤ 601024) (hn : n + 18 ≤ 7293034) (x5 : Int32) (K : Hp → Option ρ) (HK : ∀ σ, J E 9 p l e room_1 s m args below meth c Q (K σ) 2228 [(0, .ref b), (1, .ref (ea E 0)), (2, .ref (ea E 84)), (3, .ref (ea E 100)), (4, .ref (ea E 101)), (5, .int x5)] [] σ (k + 3) (n + 18)) (σ : Hp) : J E 9 p l e room_1 s m args below meth c Q (fL_case26 N xs Ls x5 K σ) 2059 [(0, .ref b), (1, .ref (ea E 0)), (2, .ref (ea E 84)), (3, .ref (ea E 100)), (4, .ref (ea E 101)), (5, .int x5)] [] σ k n := by
  unfold fL_case26
  refine j_aload_n 1 C dL_law_2059 rfl rfl ?_
  refine j_aload_n 0 C dL_law_2060 rfl rfl ?_
  refine j_iload 5 C dL_law_2061 rfl ?_
  refine j_iconst (v := 1) 1 C dL_law_2063 (by decide) ?_
  refine j_iadd C dL_law_2064 ?_
  refine j_sld C hX dL_law_2065 ?_
  refine j_aload_n 0 C dL_law_2066 rfl rfl ?_
  refine j_iload 5 C dL_law_2067 rfl ?_
  refine j_iconst (v := 2) 2 C dL_law_2069 (by decide) ?_
  refine j_iadd C dL_law_2070 ?_
  refine j_sld C hX dL_law_2071 ?_
  refine j_aload_n 3 C dL_law_2072 rfl rfl ?_
  refine j_callWI [.ref (ea E 0), .int (xs (x5 + 1).toNatClampNeg), .int (xs (x5 + 2).toNatClampNeg), .ref (ea E 100)] (conL_report N (xs (x5 + 1).toNatClampNeg) (xs (x5 + 2).toNatClampNeg)) C hT miL_report msL_report lkL_216 rfl rfl ⟨Nat.le_of_ble_eq_true rfl, Nat.le_of_ble_eq_true rfl, (by show k + 1 ≤ 601024; omega), (by show n + 6 ≤ 7293034; omega), Nat.le_of_ble_eq_true rfl⟩ dL_law_2073 (fun r2073 σ2073 => ?_)
  refine j_istore [(6, .int r2073), (0, .ref b), (1, .ref (ea E 0)), (2, .ref (ea E 84)), (3, .ref (ea E 100)), (4, .ref (ea E 101)), (5, .int x5)] C dL_law_2076 (by decide) rfl ?_
  refine j_aload_n 3 C dL_law_2078 rfl rfl ?_
  refine j_aload_n 1 C dL_law_2079 rfl rfl ?_
  refine j_iload 6 C dL_law_2080 rfl ?_
  refine j_iconst (v := 1) 1 C dL_law_2082 (by decide) ?_
  refine j_iadd C dL_law_2083 ?_
  refine j_sld C hX dL_law_2084 ?_
  refine j_aload_n 1 C dL_law_2085 rfl rfl ?_
  refine j_iload 6 C dL_law_2086 rfl ?_
  refine j_iconst (v := 2) 2 C dL_law_2088 (by decide) ?_
  refine j_iadd C dL_law_2089 ?_
  refine j_sld C hX dL_law_2090 ?_
  refine j_callVI [.int (xs (x5 + 1).toNatClampNeg), .int (xs (x5 + 2).toNatClampNeg)] (con6_report N (xs (x5 + 1).toNatClampNeg) (xs (x5 + 2).toNatClampNeg)) C mi6_report mv6_report lkL_218 (by decide) (ct_84 E _) rfl rfl rfl ⟨Nat.le_of_ble_eq_true rfl, Nat.le_of_ble_eq_true rfl, (by show k + 1 + 0 ≤ 601024; omega), (by show n + 6 + 0 ≤ 7293034; omega), Nat.le_of_ble_eq_true rfl⟩ dL_law_2091 (fun r2091 σ2091 => ?_)
  refine j_istore [(7, .int r2091), (6, .int r2073), (0, .ref b), (1, .ref (ea E 0)), (2, .ref (ea E 84)), (3, .ref (ea E 100)), (4, .ref (ea E 101)), (5, .int x5)] C dL_law_2094 (by decide) rfl ?_
  refine j_aload_n 4 C dL_law_2096 rfl rfl ?_
  refine j_callVI [] (con6_thrown N) C mi6_thrown mv6_thrown lkL_126 (by decide) (ct_84 E _) rfl rfl rfl ⟨Nat.le_of_ble_eq_true rfl, Nat.le_of_ble_eq_true rfl, (by show k + 1 + 0 + 0 ≤ 601024; omega), (by show n + 6 + 0 + 0 ≤ 7293034; omega), Nat.le_of_ble_eq_true rfl⟩ dL_law_2097 (fun r2097 σ2097 => ?_)
  refine j_iload 1 C dL_law_2100 rfl ?_
  refine j_ieq 2107 C dL_law_2102 (by decide) ?_ ?_
  · refine j_iload 1 C dL_law_2107 rfl ?_
    refine j_zne 2124 C dL_law_2109 (by decide) ?_ ?_
    · refine j_goto 2228 C dL_law_2124 (by decide) ?_
      exact j_sub [2, 3, 4, 5, 6, 7] rfl (j_widen (by show k + 1 + 0 + 0 ≤ k + 3; omega) (by show n + 6 + 0 + 0 ≤ n + 18; omega) (HK σ2097))
    · refine j_aload_n 5 C dL_law_2112 rfl rfl ?_
      refine j_iconst (v := 0) 0 C dL_law_2113 (by decide) ?_
      refine j_lald C dL_law_2114 ?_
      refine j_iload 0 C dL_law_2115 rfl ?_
      refine j_i2l C dL_law_2117 ?_
      refine j_lceq 2124 C dL_law_2118 dL_law_2119 (by decide) ?_ ?_
      · refine j_goto 2228 C dL_law_2124 (by decide) ?_
        exact j_sub [2, 3, 4, 5, 6, 7] rfl (j_widen (by show k + 1 + 0 + 0 ≤ k + 3; omega) (by show n + 6 + 0 + 0 ≤ n + 18; omega) (HK σ2097))
      · exact j_none
  · exact j_none
set_option maxHeartbeats 4000000 in
set_option maxRecDepth 100000 in
theorem wcase27 {ρ : Type} {E : En} {p : Program} {l : Launch} {e : Env} {s : State} {m : MethodId} {args : Array Value} {below : List Frame} {meth : Method} {c : Code} {Q : ρ → State → Prop} {b Ls k n : Nat} {xs : Nat → Int32} (N : Nat) (C : Cx E 9 p s m args c code RL) (hT : l.stackTraces = false) (hX : Sc E s b Ls xs) (hk : k + 3 ≤ 601024) (hn : n + 18 ≤ 7293034) (x5 : Int32) (K : Hp → Option ρ) (HK : ∀ σ, J E 9 p l e room_1 s m args below meth c Q (K σ) 2228 [(0, .ref b), (1, .ref (ea E 0)), (2, .ref (ea E 84)), (3, .ref (ea E 100)), (4, .ref (ea E 101)), (5, .int x5)] [] σ (k + 3) (n + 18)) (σ : Hp) : J E 9 p l e room_1 s m args below meth c Q (fL_case27 N xs Ls x5 K σ) 2127 [(0, .ref b), (1, .ref (ea E 0)), (2, .ref (ea E 84)), (3, .ref (ea E 100)), (4, .ref (ea E 101)), (5, .int x5)] [] σ k n := by
  unfold fL_case27
  refine j_aload_n 1 C dL_law_2127 rfl rfl ?_
  refine j_aload_n 3 C dL_law_2128 rfl rfl ?_
  refine j_callWI [.ref (ea E 0), .ref (ea E 100)] (conL_undo N) C hT miL_undo msL_undo lkL_219 rfl rfl ⟨Nat.le_of_ble_eq_true rfl, Nat.le_of_ble_eq_true rfl, (by show k + 1 ≤ 601024; omega), (by show n + 6 ≤ 7293034; omega), Nat.le_of_ble_eq_true rfl⟩ dL_law_2129 (fun r2129 σ2129 => ?_)
  refine j_istore [(6, .int r2129), (0, .ref b), (1, .ref (ea E 0)), (2, .ref (ea E 84)), (3, .ref (ea E 100)), (4, .ref (ea E 101)), (5, .int x5)] C dL_law_2132 (by decide) rfl ?_
  refine j_aload_n 3 C dL_law_2134 rfl rfl ?_
  refine j_callVI [] (con6_undo N) C mi6_undo mv6_undo lkL_221 (by decide) (ct_84 E _) rfl rfl rfl ⟨Nat.le_of_ble_eq_true rfl, Nat.le_of_ble_eq_true rfl, (by show k + 1 + 0 ≤ 601024; omega), (by show n + 6 + 0 ≤ 7293034; omega), Nat.le_of_ble_eq_true rfl⟩ dL_law_2135 (fun r2135 σ2135 => ?_)
  refine j_istore [(7, .int r2135), (6, .int r2129), (0, .ref b), (1, .ref (ea E 0)), (2, .ref (ea E 84)), (3, .ref (ea E 100)), (4, .ref (ea E 101)), (5, .int x5)] C dL_law_2138 (by decide) rfl ?_
  refine j_aload_n 4 C dL_law_2140 rfl rfl ?_
  refine j_callVI [] (con6_thrown N) C mi6_thrown mv6_thrown lkL_126 (by decide) (ct_84 E _) rfl rfl rfl ⟨Nat.le_of_ble_eq_true rfl, Nat.le_of_ble_eq_true rfl, (by show k + 1 + 0 + 0 ≤ 601024; omega), (by show n + 6 + 0 + 0 ≤ 7293034; omega), Nat.le_of_ble_eq_true rfl⟩ dL_law_2141 (fun r2141 σ2141 => ?_)
  refine j_iload 1 C dL_law_2144 rfl ?_
  refine j_ieq 2151 C dL_law_2146 (by decide) ?_ ?_
  · refine j_iload 1 C dL_law_2151 rfl ?_
    refine j_zne 2168 C dL_law_2153 (by decide) ?_ ?_
    · refine j_goto 2228 C dL_law_2168 (by decide) ?_
      exact j_sub [2, 3, 4, 5, 6, 7] rfl (j_widen (by show k + 1 + 0 + 0 ≤ k + 3; omega) (by show n + 6 + 0 + 0 ≤ n + 18; omega) (HK σ2141))
    · refine j_aload_n 5 C dL_law_2156 rfl rfl ?_
      refine j_iconst (v := 0) 0 C dL_law_2157 (by decide) ?_
      refine j_lald C dL_law_2158 ?_
      refine j_iload 0 C dL_law_2159 rfl ?_
      refine j_i2l C dL_law_2161 ?_
      refine j_lceq 2168 C dL_law_2162 dL_law_2163 (by decide) ?_ ?_
      · refine j_goto 2228 C dL_law_2168 (by decide) ?_
        exact j_sub [2, 3, 4, 5, 6, 7] rfl (j_widen (by show k + 1 + 0 + 0 ≤ k + 3; omega) (by show n + 6 + 0 + 0 ≤ n + 18; omega) (HK σ2141))
      · exact j_none
  · exact j_none
set_option maxHeartbeats 4000000 in
set_option maxRecDepth 100000 in
theorem wcase28 {ρ : Type} {E : En} {p : Program} {l : Launch} {e : Env} {s : State} {m : MethodId} {args : Array Value} {below : List Frame} {meth : Method} {c : Code} {Q : ρ → State → Prop} {b Ls k n : Nat} {xs : Nat → Int32} (N : Nat) (C : Cx E 9 p s m args c code RL) (hT : l.stackTraces = false) (hX : Sc E s b Ls xs) (hk : k + 3 ≤ 601024) (hn : n + 18 ≤ 7293034) (x5 : Int32) (K : Hp → Option ρ) (HK : ∀ σ, J E 9 p l e room_1 s m args below meth c Q (K σ) 2228 [(0, .ref b), (1, .ref (ea E 0)), (2, .ref (ea E 84)), (3, .ref (ea E 100)), (4, .ref (ea E 101)), (5, .int x5)] [] σ (k + 3) (n + 18)) (σ : Hp) : J E 9 p l e room_1 s m args below meth c Q (fL_case28 N xs Ls x5 K σ) 2171 [(0, .ref b), (1, .ref (ea E 0)), (2, .ref (ea E 84)), (3, .ref (ea E 100)), (4, .ref (ea E 101)), (5, .int x5)] [] σ k n := by
  unfold fL_case28
  refine j_aload_n 1 C dL_law_2171 rfl rfl ?_
  refine j_callVI [] (con5_save N) C mi5_save mv5_save lkL_222 (by decide) (ct_0 E _) rfl rfl rfl ⟨Nat.le_of_ble_eq_true rfl, Nat.le_of_ble_eq_true rfl, (by show k + 0 ≤ 601024; omega), (by show n + 0 ≤ 7293034; omega), Nat.le_of_ble_eq_true rfl⟩ dL_law_2172 (fun r2172 σ2172 => ?_)
  refine j_aload_n 2 C dL_law_2175 rfl rfl ?_
  refine j_callVI [] (con6_save N) C mi6_save mv6_save lkL_225 (by decide) (ct_84 E _) rfl rfl rfl ⟨Nat.le_of_ble_eq_true rfl, Nat.le_of_ble_eq_true rfl, (by show k + 0 + 0 ≤ 601024; omega), (by show n + 0 + 0 ≤ 7293034; omega), Nat.le_of_ble_eq_true rfl⟩ dL_law_2176 (fun r2176 σ2176 => ?_)
  refine j_ieq 2228 C dL_law_2179 (by decide) ?_ ?_
  · exact j_sub [0, 1, 2, 3, 4, 5] rfl (j_widen (by show k + 0 + 0 ≤ k + 3; omega) (by show n + 0 + 0 ≤ n + 18; omega) (HK σ2176))
  · exact j_none
set_option maxHeartbeats 4000000 in
set_option maxRecDepth 100000 in
theorem wcase29 {ρ : Type} {E : En} {p : Program} {l : Launch} {e : Env} {s : State} {m : MethodId} {args : Array Value} {below : List Frame} {meth : Method} {c : Code} {Q : ρ → State → Prop} {b Ls k n : Nat} {xs : Nat → Int32} (N : Nat) (C : Cx E 9 p s m args c code RL) (hT : l.stackTraces = false) (hX : Sc E s b Ls xs) (hk : k + 3 ≤ 601024) (hn : n + 18 ≤ 7293034) (x5 : Int32) (K : Hp → Option ρ) (HK : ∀ σ, J E 9 p l e room_1 s m args below meth c Q (K σ) 2228 [(0, .ref b), (1, .ref (ea E 0)), (2, .ref (ea E 84)), (3, .ref (ea E 100)), (4, .ref (ea E 101)), (5, .int x5)] [] σ (k + 3) (n + 18)) (σ : Hp) : J E 9 p l e room_1 s m args below meth c Q (fL_case29 N xs Ls x5 K σ) 2184 [(0, .ref b), (1, .ref (ea E 0)), (2, .ref (ea E 84)), (3, .ref (ea E 100)), (4, .ref (ea E 101)), (5, .int x5)] [] σ k n := by
  unfold fL_case29
  refine j_aload_n 1 C dL_law_2184 rfl rfl ?_
  refine j_aload_n 3 C dL_law_2185 rfl rfl ?_
  refine j_callWI [.ref (ea E 0), .ref (ea E 100)] (conL_restore N) C hT miL_restore msL_restore lkL_226 rfl rfl ⟨Nat.le_of_ble_eq_true rfl, Nat.le_of_ble_eq_true rfl, (by show k + 1 ≤ 601024; omega), (by show n + 6 ≤ 7293034; omega), Nat.le_of_ble_eq_true rfl⟩ dL_law_2186 (fun r2186 σ2186 => ?_)
  refine j_istore [(6, .int r2186), (0, .ref b), (1, .ref (ea E 0)), (2, .ref (ea E 84)), (3, .ref (ea E 100)), (4, .ref (ea E 101)), (5, .int x5)] C dL_law_2189 (by decide) rfl ?_
  refine j_aload_n 3 C dL_law_2191 rfl rfl ?_
  refine j_callVI [] (con6_restore N) C mi6_restore mv6_restore lkL_228 (by decide) (ct_84 E _) rfl rfl rfl ⟨Nat.le_of_ble_eq_true rfl, Nat.le_of_ble_eq_true rfl, (by show k + 1 + 0 ≤ 601024; omega), (by show n + 6 + 0 ≤ 7293034; omega), Nat.le_of_ble_eq_true rfl⟩ dL_law_2192 (fun r2192 σ2192 => ?_)
  refine j_istore [(7, .int r2192), (6, .int r2186), (0, .ref b), (1, .ref (ea E 0)), (2, .ref (ea E 84)), (3, .ref (ea E 100)), (4, .ref (ea E 101)), (5, .int x5)] C dL_law_2195 (by decide) rfl ?_
  refine j_aload_n 4 C dL_law_2197 rfl rfl ?_
  refine j_callVI [] (con6_thrown N) C mi6_thrown mv6_thrown lkL_126 (by decide) (ct_84 E _) rfl rfl rfl ⟨Nat.le_of_ble_eq_true rfl, Nat.le_of_ble_eq_true rfl, (by show k + 1 + 0 + 0 ≤ 601024; omega), (by show n + 6 + 0 + 0 ≤ 7293034; omega), Nat.le_of_ble_eq_true rfl⟩ dL_law_2198 (fun r2198 σ2198 => ?_)
  refine j_iload 1 C dL_law_2201 rfl ?_
  refine j_ieq 2208 C dL_law_2203 (by decide) ?_ ?_
  · refine j_iload 1 C dL_law_2208 rfl ?_
    refine j_zne 2225 C dL_law_2210 (by decide) ?_ ?_
    · refine j_goto 2228 C dL_law_2225 (by decide) ?_
      exact j_sub [2, 3, 4, 5, 6, 7] rfl (j_widen (by show k + 1 + 0 + 0 ≤ k + 3; omega) (by show n + 6 + 0 + 0 ≤ n + 18; omega) (HK σ2198))
    · refine j_aload_n 5 C dL_law_2213 rfl rfl ?_
      refine j_iconst (v := 0) 0 C dL_law_2214 (by decide) ?_
      refine j_lald C dL_law_2215 ?_
      refine j_iload 0 C dL_law_2216 rfl ?_
      refine j_i2l C dL_law_2218 ?_
      refine j_lceq 2225 C dL_law_2219 dL_law_2220 (by decide) ?_ ?_
      · refine j_goto 2228 C dL_law_2225 (by decide) ?_
        exact j_sub [2, 3, 4, 5, 6, 7] rfl (j_widen (by show k + 1 + 0 + 0 ≤ k + 3; omega) (by show n + 6 + 0 + 0 ≤ n + 18; omega) (HK σ2198))
      · exact j_none
  · exact j_none
