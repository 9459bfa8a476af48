set_option maxHeartbeats 4000000 in
set_option maxRecDepth 100000 in
theorem con3_clear (N : Nat) (g : Nat) (hg : isP g) : ConV yX3_clear cX3_clear 2 rm3_clear (fun E => [.ref (ea E g)]) (f3_clear N g) := by
  refine conV_of (L := fun E => [(0, .ref (ea E g))]) (by decide) (fun _ => Nat.le_of_ble_eq_true rfl) (fun _ => rfl) ?_
  intro l E σ p e s m args below meth c C hr hlocks
  have wL31 : ∀ (K31 : Hp → Option (Unit × Hp)), (∀ (σ : Hp), J E 2 p l e rm3_clear s m args below meth c (QV E below args s rm3_clear.cells rm3_clear.slots) (K31 σ) 64 [] [] σ 0 0) → ∀ (n31 : Nat) (x1 : Int32) (σ : Hp), J E 2 p l e rm3_clear s m args below meth c (QV E below args s rm3_clear.cells rm3_clear.slots) (f3_clear_L31 N g K31 n31 x1 σ) 31 [(0, .ref (ea E g)), (1, .int x1)] [] σ 0 0 := by
    intro K31 HK31 n31
    induction n31 with
    | zero => intro x1 σ; exact j_none
    | succ n31 ih31 =>
      intro x1 σ
      show J E 2 p l e rm3_clear s m args below meth c (QV E below args s rm3_clear.cells rm3_clear.slots) (f3_clear_B31 N g K31 (f3_clear_L31 N g K31 n31) x1 σ) 31 [(0, .ref (ea E g)), (1, .int x1)] [] σ 0 0
      unfold f3_clear_B31
      refine j_iload_n 1 C dX3_clear_31 rfl rfl ?_
      refine j_bipush (v := 12) 12 C dX3_clear_32 (by decide) ?_
      refine j_ige 64 C dX3_clear_34 (by decide) ?_ ?_
      · exact j_sub [] rfl (HK31 σ)
      · refine j_aload_n 0 C dX3_clear_37 rfl rfl ?_
        refine j_get 5 C fl3_31 (P_lt hg) (ct_P E hg _) rfl dX3_clear_38 ?_
        refine j_iload_n 1 C dX3_clear_41 rfl rfl ?_
        refine j_iconst (v := 0) 0 C dX3_clear_42 (by decide) ?_
        refine j_iast C (P_lt5 hg) (ct_P5 E hg) dX3_clear_43 ?_
        refine j_aload_n 0 C dX3_clear_44 rfl rfl ?_
        refine j_get 7 C fl3_37 (P_lt hg) (ct_P E hg _) rfl dX3_clear_45 ?_
        refine j_iload_n 1 C dX3_clear_48 rfl rfl ?_
        refine j_iconst (v := 0) 0 C dX3_clear_49 (by decide) ?_
        refine j_iast C (P_lt7 hg) (ct_P7 E hg) dX3_clear_50 ?_
        refine j_aload_n 0 C dX3_clear_51 rfl rfl ?_
        refine j_get 8 C fl3_40 (P_lt hg) (ct_P E hg _) rfl dX3_clear_52 ?_
        refine j_iload_n 1 C dX3_clear_55 rfl rfl ?_
        refine j_iconst (v := 0) 0 C dX3_clear_56 (by decide) ?_
        refine j_iast C (P_lt8 hg) (ct_P8 E hg) dX3_clear_57 ?_
        refine j_iinc 1 1 [(1, .int (x1 + 1)), (0, .ref (ea E g))] C dX3_clear_58 rfl rfl (by decide) rfl ?_
        refine j_goto 31 C dX3_clear_61 (by decide) ?_
        exact j_sub [1, 0] rfl (ih31 (x1 + 1) (st (st (st σ (g + 5) x1.toNatClampNeg 0) (g + 7) x1.toNatClampNeg 0) (g + 8) x1.toNatClampNeg 0))
  have wL2 : ∀ (K2 : Hp → Option (Unit × Hp)), (∀ (σ : Hp), J E 2 p l e rm3_clear s m args below meth c (QV E below args s rm3_clear.cells rm3_clear.slots) (K2 σ) 29 [(0, .ref (ea E g))] [] σ 0 0) → ∀ (n2 : Nat) (x1 : Int32) (σ : Hp), J E 2 p l e rm3_clear s m args below meth c (QV E below args s rm3_clear.cells rm3_clear.slots) (f3_clear_L2 N g K2 n2 x1 σ) 2 [(0, .ref (ea E g)), (1, .int x1)] [] σ 0 0 := by
    intro K2 HK2 n2
    induction n2 with
    | zero => intro x1 σ; exact j_none
    | succ n2 ih2 =>
      intro x1 σ
      show J E 2 p l e rm3_clear s m args below meth c (QV E below args s rm3_clear.cells rm3_clear.slots) (f3_clear_B2 N g K2 (f3_clear_L2 N g K2 n2) x1 σ) 2 [(0, .ref (ea E g)), (1, .int x1)] [] σ 0 0
      unfold f3_clear_B2
      refine j_iload_n 1 C dX3_clear_2 rfl rfl ?_
      refine j_sipush (v := 480) 480 C dX3_clear_3 (by decide) ?_
      refine j_ige 29 C dX3_clear_6 (by decide) ?_ ?_
      · exact j_sub [0] rfl (HK2 σ)
      · refine j_aload_n 0 C dX3_clear_9 rfl rfl ?_
        refine j_get 1 C fl3_18 (P_lt hg) (ct_P E hg _) rfl dX3_clear_10 ?_
        refine j_iload_n 1 C dX3_clear_13 rfl rfl ?_
        refine j_iconst (v := 0) 0 C dX3_clear_14 (by decide) ?_
        refine j_iast C (P_lt1 hg) (ct_P1 E hg) dX3_clear_15 ?_
        refine j_aload_n 0 C dX3_clear_16 rfl rfl ?_
        refine j_get 2 C fl3_22 (P_lt hg) (ct_P E hg _) rfl dX3_clear_17 ?_
        refine j_iload_n 1 C dX3_clear_20 rfl rfl ?_
        refine j_iconst (v := (-1)) (-1) C dX3_clear_21 (by decide) ?_
        refine j_iast C (P_lt2 hg) (ct_P2 E hg) dX3_clear_22 ?_
        refine j_iinc 1 1 [(1, .int (x1 + 1)), (0, .ref (ea E g))] C dX3_clear_23 rfl rfl (by decide) rfl ?_
        refine j_goto 2 C dX3_clear_26 (by decide) ?_
        exact j_sub [1, 0] rfl (ih2 (x1 + 1) (st (st σ (g + 1) x1.toNatClampNeg 0) (g + 2) x1.toNatClampNeg (-1)))
  unfold f3_clear
  refine j_iconst (v := 0) 0 C dX3_clear_0 (by decide) ?_
  refine j_istore_n [(1, .int 0), (0, .ref (ea E g))] C dX3_clear_1 rfl (by decide) rfl ?_
  refine j_sub [1, 0] rfl (wL2 _ (fun σL2 => ?_) N 0 σ)
  refine j_iconst (v := 0) 0 C dX3_clear_29 (by decide) ?_
  refine j_istore_n [(1, .int 0), (0, .ref (ea E g))] C dX3_clear_30 rfl (by decide) rfl ?_
  refine j_sub [1, 0] rfl (wL31 _ (fun σL31 => ?_) N 0 σL2)
  exact j_vret C hr hlocks dX3_clear_64 (Nat.le_of_ble_eq_true rfl) (Nat.le_of_ble_eq_true rfl)
set_option maxHeartbeats 4000000 in
set_option maxRecDepth 100000 in
theorem con3_paintBlock (N : Nat) (g : Nat) (x1 : Int32) (x2 : Int32) (x3 : Int32) (x4 : Int32) (x5 : Int32) (hg : isP g) : ConV yX3_paintBlock cX3_paintBlock 9 rm3_paintBlock (fun E => [.ref (ea E g), .int x1, .int x2, .int x3, .int x4, .int x5]) (f3_paintBlock N g x1 x2 x3 x4 x5) := by
  refine conV_of (L := fun E => [(0, .ref (ea E g)), (1, .int x1), (2, .int x2), (3, .int x3), (4, .int x4), (5, .int x5)]) (by decide) (fun _ => Nat.le_of_ble_eq_true rfl) (fun _ => rfl) ?_
  intro l E σ p e s m args below meth c C hr hlocks
  have wL3 : ∀ (K3 : Hp → Option (Unit × Hp)), (∀ (σ : Hp), J E 9 p l e rm3_paintBlock s m args below meth c (QV E below args s rm3_paintBlock.cells rm3_paintBlock.slots) (K3 σ) 67 [] [] σ 0 0) → ∀ (n3 : Nat) (x6 : Int32) (σ : Hp), J E 9 p l e rm3_paintBlock s m args below meth c (QV E below args s rm3_paintBlock.cells rm3_paintBlock.slots) (f3_paintBlock_L3 N g x1 x2 x3 x4 x5 K3 n3 x6 σ) 3 [(0, .ref (ea E g)), (1, .int x1), (2, .int x2), (3, .int x3), (4, .int x4), (5, .int x5), (6, .int x6)] [] σ 0 0 := by
    intro K3 HK3 n3
    induction n3 with
    | zero => intro x6 σ; exact j_none
    | succ n3 ih3 =>
      have wL12 : ∀ (x6 : Int32) (K12 : Hp → Option (Unit × Hp)), (∀ (σ : Hp), J E 9 p l e rm3_paintBlock s m args below meth c (QV E below args s rm3_paintBlock.cells rm3_paintBlock.slots) (K12 σ) 61 [(0, .ref (ea E g)), (1, .int x1), (2, .int x2), (3, .int x3), (4, .int x4), (5, .int x5), (6, .int x6)] [] σ 0 0) → ∀ (n12 : Nat) (x7 : Int32) (σ : Hp), J E 9 p l e rm3_paintBlock s m args below meth c (QV E below args s rm3_paintBlock.cells rm3_paintBlock.slots) (f3_paintBlock_L12 N g x1 x2 x3 x4 x5 K3 (f3_paintBlock_L3 N g x1 x2 x3 x4 x5 K3 n3) x6 K12 n12 x7 σ) 12 [(0, .ref (ea E g)), (1, .int x1), (2, .int x2), (3, .int x3), (4, .int x4), (5, .int x5), (6, .int x6), (7, .int x7)] [] σ 0 0 := by
        intro x6 K12 HK12 n12
        induction n12 with
        | zero => intro x7 σ; exact j_none
        | succ n12 ih12 =>
          have wJ55 : ∀ (x7 : Int32) (σ : Hp), J E 9 p l e rm3_paintBlock s m args below meth c (QV E below args s rm3_paintBlock.cells rm3_paintBlock.slots) (f3_paintBlock_J55 N g x1 x2 x3 x4 x5 K3 (f3_paintBlock_L3 N g x1 x2 x3 x4 x5 K3 n3) x6 K12 (f3_paintBlock_L12 N g x1 x2 x3 x4 x5 K3 (f3_paintBlock_L3 N g x1 x2 x3 x4 x5 K3 n3) x6 K12 n12) x7 σ) 55 [(0, .ref (ea E g)), (1, .int x1), (2, .int x2), (3, .int x3), (4, .int x4), (5, .int x5), (6, .int x6), (7, .int x7)] [] σ 0 0 := by
            intro x7 σ
            unfold f3_paintBlock_J55
            refine j_iinc 7 1 [(7, .int (x7 + 1)), (0, .ref (ea E g)), (1, .int x1), (2, .int x2), (3, .int x3), (4, .int x4), (5, .int x5), (6, .int x6)] C dX3_paintBlock_55 rfl rfl (by decide) rfl ?_
            refine j_goto 12 C dX3_paintBlock_58 (by decide) ?_
            exact j_sub [1, 2, 3, 4, 5, 6, 7, 0] rfl (ih12 (x7 + 1) σ)
          intro x7 σ
          show J E 9 p l e rm3_paintBlock s m args below meth c (QV E below args s rm3_paintBlock.cells rm3_paintBlock.slots) (f3_paintBlock_B12 N g x1 x2 x3 x4 x5 K3 (f3_paintBlock_L3 N g x1 x2 x3 x4 x5 K3 n3) x6 K12 (f3_paintBlock_L12 N g x1 x2 x3 x4 x5 K3 (f3_paintBlock_L3 N g x1 x2 x3 x4 x5 K3 n3) x6 K12 n12) x7 σ) 12 [(0, .ref (ea E g)), (1, .int x1), (2, .int x2), (3, .int x3), (4, .int x4), (5, .int x5), (6, .int x6), (7, .int x7)] [] σ 0 0
          unfold f3_paintBlock_B12
          refine j_iload 7 C dX3_paintBlock_12 rfl ?_
          refine j_iload_n 2 C dX3_paintBlock_14 rfl rfl ?_
          refine j_ige 61 C dX3_paintBlock_15 (by decide) ?_ ?_
          · exact j_sub [0, 1, 2, 3, 4, 5, 6] rfl (HK12 σ)
          · refine j_iload_n 1 C dX3_paintBlock_18 rfl rfl ?_
            refine j_iload 6 C dX3_paintBlock_19 rfl ?_
            refine j_iconst (v := 5) 5 C dX3_paintBlock_21 (by decide) ?_
            refine j_imul C dX3_paintBlock_22 ?_
            refine j_iadd C dX3_paintBlock_23 ?_
            refine j_iload 7 C dX3_paintBlock_24 rfl ?_
            refine j_iadd C dX3_paintBlock_26 ?_
            refine j_istore [(8, .int ((x1 + (x6 * 5)) + x7)), (0, .ref (ea E g)), (1, .int x1), (2, .int x2), (3, .int x3), (4, .int x4), (5, .int x5), (6, .int x6), (7, .int x7)] C dX3_paintBlock_27 (by decide) rfl ?_
            refine j_iload 0 C dX3_paintBlock_29 rfl ?_
            refine j_callNI [.int ((x1 + (x6 * 5)) + x7)] (con5_isCellIndex N ((x1 + (x6 * 5)) + x7)) C mi5_isCellIndex ms5_isCellIndex lk3_131 rfl rfl ⟨Nat.le_of_ble_eq_true rfl, Nat.le_of_ble_eq_true rfl, Nat.le_of_ble_eq_true rfl, Nat.le_of_ble_eq_true rfl, Nat.le_of_ble_eq_true rfl⟩ dX3_paintBlock_31 (fun r31 σ31 => ?_)
            refine j_zeq 55 C dX3_paintBlock_34 (by decide) ?_ ?_
            · exact j_sub [1, 2, 3, 4, 5, 6, 7, 8] rfl (wJ55 x7 σ31)
            · refine j_aload_n 1 C dX3_paintBlock_37 rfl rfl ?_
              refine j_get 1 C fl3_18 (P_lt hg) (ct_P E hg _) rfl dX3_paintBlock_38 ?_
              refine j_iload 0 C dX3_paintBlock_41 rfl ?_
              refine j_iload 5 C dX3_paintBlock_43 rfl ?_
              refine j_iast C (P_lt1 hg) (ct_P1 E hg) dX3_paintBlock_45 ?_
              refine j_aload_n 1 C dX3_paintBlock_46 rfl rfl ?_
              refine j_get 2 C fl3_22 (P_lt hg) (ct_P E hg _) rfl dX3_paintBlock_47 ?_
              refine j_iload 0 C dX3_paintBlock_50 rfl ?_
              refine j_iload 6 C dX3_paintBlock_52 rfl ?_
              refine j_iast C (P_lt2 hg) (ct_P2 E hg) dX3_paintBlock_54 ?_
              exact j_sub [1, 2, 3, 4, 5, 6, 7, 8] rfl (wJ55 x7 (st (st σ31 (g + 1) ((x1 + (x6 * 5)) + x7).toNatClampNeg x4) (g + 2) ((x1 + (x6 * 5)) + x7).toNatClampNeg x5))
      intro x6 σ
      show J E 9 p l e rm3_paintBlock s m args below meth c (QV E below args s rm3_paintBlock.cells rm3_paintBlock.slots) (f3_paintBlock_B3 N g x1 x2 x3 x4 x5 K3 (f3_paintBlock_L3 N g x1 x2 x3 x4 x5 K3 n3) x6 σ) 3 [(0, .ref (ea E g)), (1, .int x1), (2, .int x2), (3, .int x3), (4, .int x4), (5, .int x5), (6, .int x6)] [] σ 0 0
      unfold f3_paintBlock_B3
      refine j_iload 6 C dX3_paintBlock_3 rfl ?_
      refine j_iload_n 3 C dX3_paintBlock_5 rfl rfl ?_
      refine j_ige 67 C dX3_paintBlock_6 (by decide) ?_ ?_
      · exact j_sub [] rfl (HK3 σ)
      · refine j_iconst (v := 0) 0 C dX3_paintBlock_9 (by decide) ?_
        refine j_istore [(7, .int 0), (0, .ref (ea E g)), (1, .int x1), (2, .int x2), (3, .int x3), (4, .int x4), (5, .int x5), (6, .int x6)] C dX3_paintBlock_10 (by decide) rfl ?_
        refine j_sub [1, 2, 3, 4, 5, 6, 7, 0] rfl (wL12 x6 _ (fun σL12 => ?_) N 0 σ)
        refine j_iinc 6 1 [(6, .int (x6 + 1)), (0, .ref (ea E g)), (1, .int x1), (2, .int x2), (3, .int x3), (4, .int x4), (5, .int x5)] C dX3_paintBlock_61 rfl rfl (by decide) rfl ?_
        refine j_goto 3 C dX3_paintBlock_64 (by decide) ?_
        exact j_sub [1, 2, 3, 4, 5, 6, 0] rfl (ih3 (x6 + 1) σL12)
  unfold f3_paintBlock
  refine j_iconst (v := 0) 0 C dX3_paintBlock_0 (by decide) ?_
  refine j_istore [(6, .int 0), (0, .ref (ea E g)), (1, .int x1), (2, .int x2), (3, .int x3), (4, .int x4), (5, .int x5)] C dX3_paintBlock_1 (by decide) rfl ?_
  refine j_sub [1, 2, 3, 4, 5, 6, 0] rfl (wL3 _ (fun σL3 => ?_) N 0 σ)
  exact j_vret C hr hlocks dX3_paintBlock_67 (Nat.le_of_ble_eq_true rfl) (Nat.le_of_ble_eq_true rfl)
set_option maxHeartbeats 4000000 in
set_option maxRecDepth 100000 in
theorem con3_paintAdvertisements (N : Nat) (g : Nat) (hg : isP g) : ConV yX3_paintAdvertisements cX3_paintAdvertisements 3 rm3_paintAdvertisements (fun E => [.ref (ea E g)]) (f3_paintAdvertisements N g) := by
  refine conV_of (L := fun E => [(0, .ref (ea E g))]) (by decide) (fun _ => Nat.le_of_ble_eq_true rfl) (fun _ => rfl) ?_
  intro l E σ p e s m args below meth c C hr hlocks
  have wL2 : ∀ (K2 : Hp → Option (Unit × Hp)), (∀ (σ : Hp), J E 3 p l e rm3_paintAdvertisements s m args below meth c (QV E below args s rm3_paintAdvertisements.cells rm3_paintAdvertisements.slots) (K2 σ) 84 [] [] σ 0 0) → ∀ (n2 : Nat) (x1 : Int32) (σ : Hp), J E 3 p l e rm3_paintAdvertisements s m args below meth c (QV E below args s rm3_paintAdvertisements.cells rm3_paintAdvertisements.slots) (f3_paintAdvertisements_L2 N g K2 n2 x1 σ) 2 [(0, .ref (ea E g)), (1, .int x1)] [] σ 0 0 := by
    intro K2 HK2 n2
    induction n2 with
    | zero => intro x1 σ; exact j_none
    | succ n2 ih2 =>
      have wJ78 : ∀ (x1 : Int32) (σ : Hp), J E 3 p l e rm3_paintAdvertisements s m args below meth c (QV E below args s rm3_paintAdvertisements.cells rm3_paintAdvertisements.slots) (f3_paintAdvertisements_J78 N g K2 (f3_paintAdvertisements_L2 N g K2 n2) x1 σ) 78 [(0, .ref (ea E g)), (1, .int x1)] [] σ 0 0 := by
        intro x1 σ
        unfold f3_paintAdvertisements_J78
        refine j_iinc 1 1 [(1, .int (x1 + 1)), (0, .ref (ea E g))] C dX3_paintAdvertisements_78 rfl rfl (by decide) rfl ?_
        refine j_goto 2 C dX3_paintAdvertisements_81 (by decide) ?_
        exact j_sub [1, 0] rfl (ih2 (x1 + 1) σ)
      intro x1 σ
      show J E 3 p l e rm3_paintAdvertisements s m args below meth c (QV E below args s rm3_paintAdvertisements.cells rm3_paintAdvertisements.slots) (f3_paintAdvertisements_B2 N g K2 (f3_paintAdvertisements_L2 N g K2 n2) x1 σ) 2 [(0, .ref (ea E g)), (1, .int x1)] [] σ 0 0
      unfold f3_paintAdvertisements_B2
      refine j_iload_n 1 C dX3_paintAdvertisements_2 rfl rfl ?_
      refine j_bipush (v := 8) 8 C dX3_paintAdvertisements_3 (by decide) ?_
      refine j_ige 84 C dX3_paintAdvertisements_5 (by decide) ?_ ?_
      · exact j_sub [] rfl (HK2 σ)
      · refine j_aload_n 0 C dX3_paintAdvertisements_8 rfl rfl ?_
        refine j_get 0 C fl3_12 (P_lt hg) (ct_P E hg _) rfl dX3_paintAdvertisements_9 ?_
        refine j_iload_n 1 C dX3_paintAdvertisements_12 rfl rfl ?_
        refine j_callVI [.int x1] (con1_hasAdvertisement N (edOf g) x1 (isE_ed hg)) C mi1_hasAdvertisement mv1_hasAdvertisement lk3_64 (E_lt (isE_ed hg)) (ct_E E (isE_ed hg) _) rfl rfl rfl ⟨Nat.le_of_ble_eq_true rfl, Nat.le_of_ble_eq_true rfl, Nat.le_of_ble_eq_true rfl, Nat.le_of_ble_eq_true rfl, Nat.le_of_ble_eq_true rfl⟩ dX3_paintAdvertisements_13 (fun r13 σ13 => ?_)
        refine j_zeq 78 C dX3_paintAdvertisements_16 (by decide) ?_ ?_
        · exact j_sub [0, 1] rfl (wJ78 x1 σ13)
        · refine j_aload_n 0 C dX3_paintAdvertisements_19 rfl rfl ?_
          refine j_get 0 C fl3_12 (P_lt hg) (ct_P E hg _) rfl dX3_paintAdvertisements_20 ?_
          refine j_iload_n 1 C dX3_paintAdvertisements_23 rfl rfl ?_
          refine j_iconst (v := 0) 0 C dX3_paintAdvertisements_24 (by decide) ?_
          refine j_callVI [.int x1, .int 0] (con1_advertisementNumber N (edOf g) x1 0 (isE_ed hg)) C mi1_advertisementNumber mv1_advertisementNumber lk3_68 (E_lt (isE_ed hg)) (ct_E E (isE_ed hg) _) rfl rfl rfl ⟨Nat.le_of_ble_eq_true rfl, Nat.le_of_ble_eq_true rfl, Nat.le_of_ble_eq_true rfl, Nat.le_of_ble_eq_true rfl, Nat.le_of_ble_eq_true rfl⟩ dX3_paintAdvertisements_25 (fun r25 σ25 => ?_)
          refine j_aload_n 0 C dX3_paintAdvertisements_28 rfl rfl ?_
          refine j_get 0 C fl3_12 (P_lt hg) (ct_P E hg _) rfl dX3_paintAdvertisements_29 ?_
          refine j_iload_n 1 C dX3_paintAdvertisements_32 rfl rfl ?_
          refine j_iconst (v := 1) 1 C dX3_paintAdvertisements_33 (by decide) ?_
          refine j_callVI [.int x1, .int 1] (con1_advertisementNumber N (edOf g) x1 1 (isE_ed hg)) C mi1_advertisementNumber mv1_advertisementNumber lk3_68 (E_lt (isE_ed hg)) (ct_E E (isE_ed hg) _) rfl rfl rfl ⟨Nat.le_of_ble_eq_true rfl, Nat.le_of_ble_eq_true rfl, Nat.le_of_ble_eq_true rfl, Nat.le_of_ble_eq_true rfl, Nat.le_of_ble_eq_true rfl⟩ dX3_paintAdvertisements_34 (fun r34 σ34 => ?_)
          refine j_aload_n 0 C dX3_paintAdvertisements_37 rfl rfl ?_
          refine j_get 0 C fl3_12 (P_lt hg) (ct_P E hg _) rfl dX3_paintAdvertisements_38 ?_
          refine j_iload_n 1 C dX3_paintAdvertisements_41 rfl rfl ?_
          refine j_iconst (v := 2) 2 C dX3_paintAdvertisements_42 (by decide) ?_
          refine j_callVI [.int x1, .int 2] (con1_advertisementNumber N (edOf g) x1 2 (isE_ed hg)) C mi1_advertisementNumber mv1_advertisementNumber lk3_68 (E_lt (isE_ed hg)) (ct_E E (isE_ed hg) _) rfl rfl rfl ⟨Nat.le_of_ble_eq_true rfl, Nat.le_of_ble_eq_true rfl, Nat.le_of_ble_eq_true rfl, Nat.le_of_ble_eq_true rfl, Nat.le_of_ble_eq_true rfl⟩ dX3_paintAdvertisements_43 (fun r43 σ43 => ?_)
          refine j_callNI [.int r25, .int r34, .int r43] (con5_cellIndex N r25 r34 r43) C mi5_cellIndex ms5_cellIndex lk3_72 rfl rfl ⟨Nat.le_of_ble_eq_true rfl, Nat.le_of_ble_eq_true rfl, Nat.le_of_ble_eq_true rfl, Nat.le_of_ble_eq_true rfl, Nat.le_of_ble_eq_true rfl⟩ dX3_paintAdvertisements_46 (fun r46 σ46 => ?_)
          refine j_istore_n [(2, .int r46), (0, .ref (ea E g)), (1, .int x1)] C dX3_paintAdvertisements_49 rfl (by decide) rfl ?_
          refine j_aload_n 1 C dX3_paintAdvertisements_50 rfl rfl ?_
          refine j_iload_n 0 C dX3_paintAdvertisements_51 rfl rfl ?_
          refine j_aload_n 1 C dX3_paintAdvertisements_52 rfl rfl ?_
          refine j_get 0 C fl3_12 (P_lt hg) (ct_P E hg _) rfl dX3_paintAdvertisements_53 ?_
          refine j_iload_n 2 C dX3_paintAdvertisements_56 rfl rfl ?_
          refine j_iconst (v := 3) 3 C dX3_paintAdvertisements_57 (by decide) ?_
          refine j_callVI [.int x1, .int 3] (con1_advertisementNumber N (edOf g) x1 3 (isE_ed hg)) C mi1_advertisementNumber mv1_advertisementNumber lk3_68 (E_lt (isE_ed hg)) (ct_E E (isE_ed hg) _) rfl rfl rfl ⟨Nat.le_of_ble_eq_true rfl, Nat.le_of_ble_eq_true rfl, Nat.le_of_ble_eq_true rfl, Nat.le_of_ble_eq_true rfl, Nat.le_of_ble_eq_true rfl⟩ dX3_paintAdvertisements_58 (fun r58 σ58 => ?_)
          refine j_aload_n 1 C dX3_paintAdvertisements_61 rfl rfl ?_
          refine j_get 0 C fl3_12 (P_lt hg) (ct_P E hg _) rfl dX3_paintAdvertisements_62 ?_
          refine j_iload_n 2 C dX3_paintAdvertisements_65 rfl rfl ?_
          refine j_iconst (v := 4) 4 C dX3_paintAdvertisements_66 (by decide) ?_
          refine j_callVI [.int x1, .int 4] (con1_advertisementNumber N (edOf g) x1 4 (isE_ed hg)) C mi1_advertisementNumber mv1_advertisementNumber lk3_68 (E_lt (isE_ed hg)) (ct_E E (isE_ed hg) _) rfl rfl rfl ⟨Nat.le_of_ble_eq_true rfl, Nat.le_of_ble_eq_true rfl, Nat.le_of_ble_eq_true rfl, Nat.le_of_ble_eq_true rfl, Nat.le_of_ble_eq_true rfl⟩ dX3_paintAdvertisements_67 (fun r67 σ67 => ?_)
          refine j_iconst (v := 1) 1 C dX3_paintAdvertisements_70 (by decide) ?_
          refine j_bipush (v := 100) 100 C dX3_paintAdvertisements_71 (by decide) ?_
          refine j_iload_n 2 C dX3_paintAdvertisements_73 rfl rfl ?_
          refine j_iadd C dX3_paintAdvertisements_74 ?_
          refine j_callVV [.int r46, .int r58, .int r67, .int 1, .int (100 + x1)] (con3_paintBlock N g r46 r58 r67 1 (100 + x1) hg) C mi3_paintBlock mv3_paintBlock lk3_76 (P_lt hg) (ct_P E hg _) rfl rfl rfl ⟨Nat.le_of_ble_eq_true rfl, Nat.le_of_ble_eq_true rfl, Nat.le_of_ble_eq_true rfl, Nat.le_of_ble_eq_true rfl, Nat.le_of_ble_eq_true rfl⟩ dX3_paintAdvertisements_75 (fun σ75 => ?_)
          exact j_sub [1, 2] rfl (wJ78 x1 σ75)
  unfold f3_paintAdvertisements
  refine j_iconst (v := 0) 0 C dX3_paintAdvertisements_0 (by decide) ?_
  refine j_istore_n [(1, .int 0), (0, .ref (ea E g))] C dX3_paintAdvertisements_1 rfl (by decide) rfl ?_
  refine j_sub [1, 0] rfl (wL2 _ (fun σL2 => ?_) N 0 σ)
  exact j_vret C hr hlocks dX3_paintAdvertisements_84 (Nat.le_of_ble_eq_true rfl) (Nat.le_of_ble_eq_true rfl)
set_option maxHeartbeats 4000000 in
set_option maxRecDepth 100000 in
theorem con3_comesBefore (N : Nat) (g : Nat) (x1 : Int32) (x2 : Int32) (hg : isP g) : ConI yX3_comesBefore cX3_comesBefore 5 .boolean rm3_comesBefore (fun E => [.ref (ea E g), .int x1, .int x2]) (f3_comesBefore N g x1 x2) := by
  refine conI_of (L := fun E => [(0, .ref (ea E g)), (1, .int x1), (2, .int x2)]) (by decide) (fun _ => Nat.le_of_ble_eq_true rfl) (fun _ => rfl) ?_
  intro l E σ p e s m args below meth c C hr hlocks
  unfold f3_comesBefore
  refine j_aload_n 0 C dX3_comesBefore_0 rfl rfl ?_
  refine j_get 0 C fl3_12 (P_lt hg) (ct_P E hg _) rfl dX3_comesBefore_1 ?_
  refine j_iload_n 1 C dX3_comesBefore_4 rfl rfl ?_
  refine j_callVI [.int x1] (con1_isLate N (edOf g) x1 (isE_ed hg)) C mi1_isLate mv1_isLate lk3_93 (E_lt (isE_ed hg)) (ct_E E (isE_ed hg) _) rfl rfl rfl ⟨Nat.le_of_ble_eq_true rfl, Nat.le_of_ble_eq_true rfl, Nat.le_of_ble_eq_true rfl, Nat.le_of_ble_eq_true rfl, Nat.le_of_ble_eq_true rfl⟩ dX3_comesBefore_5 (fun r5 σ5 => ?_)
  refine j_aload_n 0 C dX3_comesBefore_8 rfl rfl ?_
  refine j_get 0 C fl3_12 (P_lt hg) (ct_P E hg _) rfl dX3_comesBefore_9 ?_
  refine j_iload_n 2 C dX3_comesBefore_12 rfl rfl ?_
  refine j_callVI [.int x2] (con1_isLate N (edOf g) x2 (isE_ed hg)) C mi1_isLate mv1_isLate lk3_93 (E_lt (isE_ed hg)) (ct_E E (isE_ed hg) _) rfl rfl rfl ⟨Nat.le_of_ble_eq_true rfl, Nat.le_of_ble_eq_true rfl, Nat.le_of_ble_eq_true rfl, Nat.le_of_ble_eq_true rfl, Nat.le_of_ble_eq_true rfl⟩ dX3_comesBefore_13 (fun r13 σ13 => ?_)
  refine j_ieq 28 C dX3_comesBefore_16 (by decide) ?_ ?_
  · refine j_aload_n 0 C dX3_comesBefore_28 rfl rfl ?_
    refine j_get 0 C fl3_12 (P_lt hg) (ct_P E hg _) rfl dX3_comesBefore_29 ?_
    refine j_iload_n 1 C dX3_comesBefore_32 rfl rfl ?_
    refine j_iconst (v := 4) 4 C dX3_comesBefore_33 (by decide) ?_
    refine j_callVI [.int x1, .int 4] (con1_storyNumber N (edOf g) x1 4 (isE_ed hg)) C mi1_storyNumber mv1_storyNumber lk3_96 (E_lt (isE_ed hg)) (ct_E E (isE_ed hg) _) rfl rfl rfl ⟨Nat.le_of_ble_eq_true rfl, Nat.le_of_ble_eq_true rfl, Nat.le_of_ble_eq_true rfl, Nat.le_of_ble_eq_true rfl, Nat.le_of_ble_eq_true rfl⟩ dX3_comesBefore_34 (fun r34 σ34 => ?_)
    refine j_istore_n [(3, .int r34), (0, .ref (ea E g)), (1, .int x1), (2, .int x2)] C dX3_comesBefore_37 rfl (by decide) rfl ?_
    refine j_aload_n 1 C dX3_comesBefore_38 rfl rfl ?_
    refine j_get 0 C fl3_12 (P_lt hg) (ct_P E hg _) rfl dX3_comesBefore_39 ?_
    refine j_iload_n 3 C dX3_comesBefore_42 rfl rfl ?_
    refine j_iconst (v := 4) 4 C dX3_comesBefore_43 (by decide) ?_
    refine j_callVI [.int x2, .int 4] (con1_storyNumber N (edOf g) x2 4 (isE_ed hg)) C mi1_storyNumber mv1_storyNumber lk3_96 (E_lt (isE_ed hg)) (ct_E E (isE_ed hg) _) rfl rfl rfl ⟨Nat.le_of_ble_eq_true rfl, Nat.le_of_ble_eq_true rfl, Nat.le_of_ble_eq_true rfl, Nat.le_of_ble_eq_true rfl, Nat.le_of_ble_eq_true rfl⟩ dX3_comesBefore_44 (fun r44 σ44 => ?_)
    refine j_istore [(4, .int r44), (3, .int r34), (0, .ref (ea E g)), (1, .int x1), (2, .int x2)] C dX3_comesBefore_47 (by decide) rfl ?_
    refine j_iload_n 1 C dX3_comesBefore_49 rfl rfl ?_
    refine j_iload 0 C dX3_comesBefore_50 rfl ?_
    refine j_ieq 69 C dX3_comesBefore_52 (by decide) ?_ ?_
    · refine j_iload_n 3 C dX3_comesBefore_69 rfl rfl ?_
      refine j_iload_n 4 C dX3_comesBefore_70 rfl rfl ?_
      refine j_ige 78 C dX3_comesBefore_71 (by decide) ?_ ?_
      · refine j_iconst (v := 0) 0 C dX3_comesBefore_78 (by decide) ?_
        exact j_iret C hr hlocks rfl dX3_comesBefore_79 (Nat.le_of_ble_eq_true rfl) (Nat.le_of_ble_eq_true rfl)
      · refine j_iconst (v := 1) 1 C dX3_comesBefore_74 (by decide) ?_
        refine j_goto 79 C dX3_comesBefore_75 (by decide) ?_
        exact j_iret C hr hlocks rfl dX3_comesBefore_79 (Nat.le_of_ble_eq_true rfl) (Nat.le_of_ble_eq_true rfl)
    · refine j_iload_n 1 C dX3_comesBefore_55 rfl rfl ?_
      refine j_iload 0 C dX3_comesBefore_56 rfl ?_
      refine j_ile 65 C dX3_comesBefore_58 (by decide) ?_ ?_
      · refine j_iconst (v := 0) 0 C dX3_comesBefore_65 (by decide) ?_
        refine j_goto 79 C dX3_comesBefore_66 (by decide) ?_
        exact j_iret C hr hlocks rfl dX3_comesBefore_79 (Nat.le_of_ble_eq_true rfl) (Nat.le_of_ble_eq_true rfl)
      · refine j_iconst (v := 1) 1 C dX3_comesBefore_61 (by decide) ?_
        refine j_goto 79 C dX3_comesBefore_62 (by decide) ?_
        exact j_iret C hr hlocks rfl dX3_comesBefore_79 (Nat.le_of_ble_eq_true rfl) (Nat.le_of_ble_eq_true rfl)
  · refine j_aload_n 0 C dX3_comesBefore_19 rfl rfl ?_
    refine j_get 0 C fl3_12 (P_lt hg) (ct_P E hg _) rfl dX3_comesBefore_20 ?_
    refine j_iload_n 1 C dX3_comesBefore_23 rfl rfl ?_
    refine j_callVI [.int x1] (con1_isLate N (edOf g) x1 (isE_ed hg)) C mi1_isLate mv1_isLate lk3_93 (E_lt (isE_ed hg)) (ct_E E (isE_ed hg) _) rfl rfl rfl ⟨Nat.le_of_ble_eq_true rfl, Nat.le_of_ble_eq_true rfl, Nat.le_of_ble_eq_true rfl, Nat.le_of_ble_eq_true rfl, Nat.le_of_ble_eq_true rfl⟩ dX3_comesBefore_24 (fun r24 σ24 => ?_)
    exact j_gd (fun hb => j_iret C hr hlocks (nrB hb) dX3_comesBefore_27 (Nat.le_of_ble_eq_true rfl) (Nat.le_of_ble_eq_true rfl))
set_option maxHeartbeats 4000000 in
set_option maxRecDepth 100000 in
theorem con3_countBefore (N : Nat) (g : Nat) (x1 : Int32) (hg : isP g) : ConI yX3_countBefore cX3_countBefore 4 .int rm3_countBefore (fun E => [.ref (ea E g), .int x1]) (f3_countBefore N g x1) := by
  refine conI_of (L := fun E => [(0, .ref (ea E g)), (1, .int x1)]) (by decide) (fun _ => Nat.le_of_ble_eq_true rfl) (fun _ => rfl) ?_
  intro l E σ p e s m args below meth c C hr hlocks
  have wL4 : ∀ (K4 : Int32 → Hp → Option (Int32 × Hp)), (∀ (x2 : Int32) (σ : Hp), J E 4 p l e rm3_countBefore s m args below meth c (QI E below args s rm3_countBefore.cells rm3_countBefore.slots) (K4 x2 σ) 39 [(2, .int x2)] [] σ 0 0) → ∀ (n4 : Nat) (x2 : Int32) (x3 : Int32) (σ : Hp), J E 4 p l e rm3_countBefore s m args below meth c (QI E below args s rm3_countBefore.cells rm3_countBefore.slots) (f3_countBefore_L4 N g x1 K4 n4 x2 x3 σ) 4 [(0, .ref (ea E g)), (1, .int x1), (2, .int x2), (3, .int x3)] [] σ 0 0 := by
    intro K4 HK4 n4
    induction n4 with
    | zero => intro x2 x3 σ; exact j_none
    | succ n4 ih4 =>
      have wJ33 : ∀ (x2 : Int32) (x3 : Int32) (σ : Hp), J E 4 p l e rm3_countBefore s m args below meth c (QI E below args s rm3_countBefore.cells rm3_countBefore.slots) (f3_countBefore_J33 N g x1 K4 (f3_countBefore_L4 N g x1 K4 n4) x2 x3 σ) 33 [(0, .ref (ea E g)), (1, .int x1), (2, .int x2), (3, .int x3)] [] σ 0 0 := by
        intro x2 x3 σ
        unfold f3_countBefore_J33
        refine j_iinc 3 1 [(3, .int (x3 + 1)), (0, .ref (ea E g)), (1, .int x1), (2, .int x2)] C dX3_countBefore_33 rfl rfl (by decide) rfl ?_
        refine j_goto 4 C dX3_countBefore_36 (by decide) ?_
        exact j_sub [1, 2, 3, 0] rfl (ih4 x2 (x3 + 1) σ)
      intro x2 x3 σ
      show J E 4 p l e rm3_countBefore s m args below meth c (QI E below args s rm3_countBefore.cells rm3_countBefore.slots) (f3_countBefore_B4 N g x1 K4 (f3_countBefore_L4 N g x1 K4 n4) x2 x3 σ) 4 [(0, .ref (ea E g)), (1, .int x1), (2, .int x2), (3, .int x3)] [] σ 0 0
      unfold f3_countBefore_B4
      refine j_iload_n 3 C dX3_countBefore_4 rfl rfl ?_
      refine j_bipush (v := 12) 12 C dX3_countBefore_5 (by decide) ?_
      refine j_ige 39 C dX3_countBefore_7 (by decide) ?_ ?_
      · exact j_sub [2] rfl (HK4 x2 σ)
      · refine j_aload_n 0 C dX3_countBefore_10 rfl rfl ?_
        refine j_get 0 C fl3_12 (P_lt hg) (ct_P E hg _) rfl dX3_countBefore_11 ?_
        refine j_iload_n 3 C dX3_countBefore_14 rfl rfl ?_
        refine j_callVI [.int x3] (con1_hasStory N (edOf g) x3 (isE_ed hg)) C mi1_hasStory mv1_hasStory lk3_83 (E_lt (isE_ed hg)) (ct_E E (isE_ed hg) _) rfl rfl rfl ⟨Nat.le_of_ble_eq_true rfl, Nat.le_of_ble_eq_true rfl, Nat.le_of_ble_eq_true rfl, Nat.le_of_ble_eq_true rfl, Nat.le_of_ble_eq_true rfl⟩ dX3_countBefore_15 (fun r15 σ15 => ?_)
        refine j_zeq 33 C dX3_countBefore_18 (by decide) ?_ ?_
        · exact j_sub [0, 1, 2, 3] rfl (wJ33 x2 x3 σ15)
        · refine j_aload_n 0 C dX3_countBefore_21 rfl rfl ?_
          refine j_iload_n 3 C dX3_countBefore_22 rfl rfl ?_
          refine j_iload_n 1 C dX3_countBefore_23 rfl rfl ?_
          refine j_callVI [.int x3, .int x1] (con3_comesBefore N g x3 x1 hg) C mi3_comesBefore mv3_comesBefore lk3_89 (P_lt hg) (ct_P E hg _) rfl rfl rfl ⟨Nat.le_of_ble_eq_true rfl, Nat.le_of_ble_eq_true rfl, Nat.le_of_ble_eq_true rfl, Nat.le_of_ble_eq_true rfl, Nat.le_of_ble_eq_true rfl⟩ dX3_countBefore_24 (fun r24 σ24 => ?_)
          refine j_zeq 33 C dX3_countBefore_27 (by decide) ?_ ?_
          · exact j_sub [0, 1, 2, 3] rfl (wJ33 x2 x3 σ24)
          · refine j_iinc 2 1 [(2, .int (x2 + 1)), (0, .ref (ea E g)), (1, .int x1), (3, .int x3)] C dX3_countBefore_30 rfl rfl (by decide) rfl ?_
            exact j_sub [1, 2, 0, 3] rfl (wJ33 (x2 + 1) x3 σ24)
  unfold f3_countBefore
  refine j_iconst (v := 0) 0 C dX3_countBefore_0 (by decide) ?_
  refine j_istore_n [(2, .int 0), (0, .ref (ea E g)), (1, .int x1)] C dX3_countBefore_1 rfl (by decide) rfl ?_
  refine j_iconst (v := 0) 0 C dX3_countBefore_2 (by decide) ?_
  refine j_istore_n [(3, .int 0), (2, .int 0), (0, .ref (ea E g)), (1, .int x1)] C dX3_countBefore_3 rfl (by decide) rfl ?_
  refine j_sub [2, 3, 1, 0] rfl (wL4 _ (fun x2_4 σL4 => ?_) N 0 0 σ)
  refine j_iload_n 0 C dX3_countBefore_39 rfl rfl ?_
  exact j_iret C hr hlocks rfl dX3_countBefore_40 (Nat.le_of_ble_eq_true rfl) (Nat.le_of_ble_eq_true rfl)
set_option maxHeartbeats 4000000 in
set_option maxRecDepth 100000 in
theorem con3_rankStories (N : Nat) (g : Nat) (hg : isP g) : ConV yX3_rankStories cX3_rankStories 3 rm3_rankStories (fun E => [.ref (ea E g)]) (f3_rankStories N g) := by
  refine conV_of (L := fun E => [(0, .ref (ea E g))]) (by decide) (fun _ => Nat.le_of_ble_eq_true rfl) (fun _ => rfl) ?_
  intro l E σ p e s m args below meth c C hr hlocks
  have wL2 : ∀ (K2 : Hp → Option (Unit × Hp)), (∀ (σ : Hp), J E 3 p l e rm3_rankStories s m args below meth c (QV E below args s rm3_rankStories.cells rm3_rankStories.slots) (K2 σ) 52 [] [] σ 0 0) → ∀ (n2 : Nat) (x1 : Int32) (σ : Hp), J E 3 p l e rm3_rankStories s m args below meth c (QV E below args s rm3_rankStories.cells rm3_rankStories.slots) (f3_rankStories_L2 N g K2 n2 x1 σ) 2 [(0, .ref (ea E g)), (1, .int x1)] [] σ 0 0 := by
    intro K2 HK2 n2
    induction n2 with
    | zero => intro x1 σ; exact j_none
    | succ n2 ih2 =>
      have wJ46 : ∀ (x1 : Int32) (σ : Hp), J E 3 p l e rm3_rankStories s m args below meth c (QV E below args s rm3_rankStories.cells rm3_rankStories.slots) (f3_rankStories_J46 N g K2 (f3_rankStories_L2 N g K2 n2) x1 σ) 46 [(0, .ref (ea E g)), (1, .int x1)] [] σ 0 0 := by
        intro x1 σ
        unfold f3_rankStories_J46
        refine j_iinc 1 1 [(1, .int (x1 + 1)), (0, .ref (ea E g))] C dX3_rankStories_46 rfl rfl (by decide) rfl ?_
        refine j_goto 2 C dX3_rankStories_49 (by decide) ?_
        exact j_sub [1, 0] rfl (ih2 (x1 + 1) σ)
      intro x1 σ
      show J E 3 p l e rm3_rankStories s m args below meth c (QV E below args s rm3_rankStories.cells rm3_rankStories.slots) (f3_rankStories_B2 N g K2 (f3_rankStories_L2 N g K2 n2) x1 σ) 2 [(0, .ref (ea E g)), (1, .int x1)] [] σ 0 0
      unfold f3_rankStories_B2
      refine j_iload_n 1 C dX3_rankStories_2 rfl rfl ?_
      refine j_bipush (v := 12) 12 C dX3_rankStories_3 (by decide) ?_
      refine j_ige 52 C dX3_rankStories_5 (by decide) ?_ ?_
      · exact j_sub [] rfl (HK2 σ)
      · refine j_aload_n 0 C dX3_rankStories_8 rfl rfl ?_
        refine j_iload_n 1 C dX3_rankStories_9 rfl rfl ?_
        refine j_callVI [.int x1] (con3_countBefore N g x1 hg) C mi3_countBefore mv3_countBefore lk3_80 (P_lt hg) (ct_P E hg _) rfl rfl rfl ⟨Nat.le_of_ble_eq_true rfl, Nat.le_of_ble_eq_true rfl, Nat.le_of_ble_eq_true rfl, Nat.le_of_ble_eq_true rfl, Nat.le_of_ble_eq_true rfl⟩ dX3_rankStories_10 (fun r10 σ10 => ?_)
        refine j_istore_n [(2, .int r10), (0, .ref (ea E g)), (1, .int x1)] C dX3_rankStories_13 rfl (by decide) rfl ?_
        refine j_aload_n 1 C dX3_rankStories_14 rfl rfl ?_
        refine j_get 0 C fl3_12 (P_lt hg) (ct_P E hg _) rfl dX3_rankStories_15 ?_
        refine j_iload_n 2 C dX3_rankStories_18 rfl rfl ?_
        refine j_callVI [.int x1] (con1_hasStory N (edOf g) x1 (isE_ed hg)) C mi1_hasStory mv1_hasStory lk3_83 (E_lt (isE_ed hg)) (ct_E E (isE_ed hg) _) rfl rfl rfl ⟨Nat.le_of_ble_eq_true rfl, Nat.le_of_ble_eq_true rfl, Nat.le_of_ble_eq_true rfl, Nat.le_of_ble_eq_true rfl, Nat.le_of_ble_eq_true rfl⟩ dX3_rankStories_19 (fun r19 σ19 => ?_)
        refine j_zeq 46 C dX3_rankStories_22 (by decide) ?_ ?_
        · exact j_sub [1, 2] rfl (wJ46 x1 σ19)
        · refine j_iload_n 0 C dX3_rankStories_25 rfl rfl ?_
          refine j_callNI [.int r10] (con5_isStoryIndex N r10) C mi5_isStoryIndex ms5_isStoryIndex lk3_86 rfl rfl ⟨Nat.le_of_ble_eq_true rfl, Nat.le_of_ble_eq_true rfl, Nat.le_of_ble_eq_true rfl, Nat.le_of_ble_eq_true rfl, Nat.le_of_ble_eq_true rfl⟩ dX3_rankStories_26 (fun r26 σ26 => ?_)
          refine j_zeq 46 C dX3_rankStories_29 (by decide) ?_ ?_
          · exact j_sub [1, 2] rfl (wJ46 x1 σ26)
          · refine j_aload_n 1 C dX3_rankStories_32 rfl rfl ?_
            refine j_get 4 C fl3_28 (P_lt hg) (ct_P E hg _) rfl dX3_rankStories_33 ?_
            refine j_iload_n 2 C dX3_rankStories_36 rfl rfl ?_
            refine j_iload_n 0 C dX3_rankStories_37 rfl rfl ?_
            refine j_iast C (P_lt4 hg) (ct_P4 E hg) dX3_rankStories_38 ?_
            refine j_aload_n 1 C dX3_rankStories_39 rfl rfl ?_
            refine j_get 3 C fl3_25 (P_lt hg) (ct_P E hg _) rfl dX3_rankStories_40 ?_
            refine j_iload_n 0 C dX3_rankStories_43 rfl rfl ?_
            refine j_iload_n 2 C dX3_rankStories_44 rfl rfl ?_
            refine j_iast C (P_lt3 hg) (ct_P3 E hg) dX3_rankStories_45 ?_
            exact j_sub [1, 2] rfl (wJ46 x1 (st (st σ26 (g + 4) x1.toNatClampNeg r10) (g + 3) r10.toNatClampNeg x1))
  unfold f3_rankStories
  refine j_iconst (v := 0) 0 C dX3_rankStories_0 (by decide) ?_
  refine j_istore_n [(1, .int 0), (0, .ref (ea E g))] C dX3_rankStories_1 rfl (by decide) rfl ?_
  refine j_sub [1, 0] rfl (wL2 _ (fun σL2 => ?_) N 0 σ)
  exact j_vret C hr hlocks dX3_rankStories_52 (Nat.le_of_ble_eq_true rfl) (Nat.le_of_ble_eq_true rfl)
set_option maxHeartbeats 4000000 in
set_option maxRecDepth 100000 in
theorem con3_storyOfRank (N : Nat) (g : Nat) (x1 : Int32) (hg : isP g) : ConI yX3_storyOfRank cX3_storyOfRank 2 .int rm3_storyOfRank (fun E => [.ref (ea E g), .int x1]) (f3_storyOfRank N g x1) := by
  refine conI_of (L := fun E => [(0, .ref (ea E g)), (1, .int x1)]) (by decide) (fun _ => Nat.le_of_ble_eq_true rfl) (fun _ => rfl) ?_
  intro l E σ p e s m args below meth c C hr hlocks
  unfold f3_storyOfRank
  refine j_iload_n 1 C dX3_storyOfRank_0 rfl rfl ?_
  refine j_callNI [.int x1] (con5_isStoryIndex N x1) C mi5_isStoryIndex ms5_isStoryIndex lk3_86 rfl rfl ⟨Nat.le_of_ble_eq_true rfl, Nat.le_of_ble_eq_true rfl, Nat.le_of_ble_eq_true rfl, Nat.le_of_ble_eq_true rfl, Nat.le_of_ble_eq_true rfl⟩ dX3_storyOfRank_1 (fun r1 σ1 => ?_)
  refine j_zeq 16 C dX3_storyOfRank_4 (by decide) ?_ ?_
  · refine j_iconst (v := (-1)) (-1) C dX3_storyOfRank_16 (by decide) ?_
    exact j_iret C hr hlocks rfl dX3_storyOfRank_17 (Nat.le_of_ble_eq_true rfl) (Nat.le_of_ble_eq_true rfl)
  · refine j_aload_n 0 C dX3_storyOfRank_7 rfl rfl ?_
    refine j_get 3 C fl3_25 (P_lt hg) (ct_P E hg _) rfl dX3_storyOfRank_8 ?_
    refine j_iload_n 1 C dX3_storyOfRank_11 rfl rfl ?_
    refine j_iald C (P_lt3 hg) (ct_P3 E hg _) dX3_storyOfRank_12 ?_
    refine j_goto 17 C dX3_storyOfRank_13 (by decide) ?_
    exact j_iret C hr hlocks rfl dX3_storyOfRank_17 (Nat.le_of_ble_eq_true rfl) (Nat.le_of_ble_eq_true rfl)
set_option maxHeartbeats 4000000 in
set_option maxRecDepth 100000 in
theorem con3_freeRows (N : Nat) (g : Nat) (x1 : Int32) (x2 : Int32) (hg : isP g) : ConI yX3_freeRows cX3_freeRows 7 .int rm3_freeRows (fun E => [.ref (ea E g), .int x1, .int x2]) (f3_freeRows N g x1 x2) := by
  refine conI_of (L := fun E => [(0, .ref (ea E g)), (1, .int x1), (2, .int x2)]) (by decide) (fun _ => Nat.le_of_ble_eq_true rfl) (fun _ => rfl) ?_
  intro l E σ p e s m args below meth c C hr hlocks
  have wL8 : ∀ (K8 : Int32 → Hp → Option (Int32 × Hp)), (∀ (x3 : Int32) (σ : Hp), J E 7 p l e rm3_freeRows s m args below meth c (QI E below args s rm3_freeRows.cells rm3_freeRows.slots) (K8 x3 σ) 72 [(3, .int x3)] [] σ 0 0) → ∀ (n8 : Nat) (x3 : Int32) (x4 : Int32) (σ : Hp), J E 7 p l e rm3_freeRows s m args below meth c (QI E below args s rm3_freeRows.cells rm3_freeRows.slots) (f3_freeRows_L8 N g x1 x2 K8 n8 x3 x4 σ) 8 [(0, .ref (ea E g)), (1, .int x1), (2, .int x2), (3, .int x3), (4, .int x4)] [] σ 0 0 := by
    intro K8 HK8 n8
    induction n8 with
    | zero => intro x3 x4 σ; exact j_none
    | succ n8 ih8 =>
      have wL25 : ∀ (x3 : Int32) (x4 : Int32) (x5 : Int32) (K25 : Hp → Option (Int32 × Hp)), (∀ (σ : Hp), J E 7 p l e rm3_freeRows s m args below meth c (QI E below args s rm3_freeRows.cells rm3_freeRows.slots) (K25 σ) 63 [(0, .ref (ea E g)), (1, .int x1), (2, .int x2), (3, .int x3), (4, .int x4)] [] σ 0 0) → ∀ (n25 : Nat) (x6 : Int32) (σ : Hp), J E 7 p l e rm3_freeRows s m args below meth c (QI E below args s rm3_freeRows.cells rm3_freeRows.slots) (f3_freeRows_L25 N g x1 x2 K8 (f3_freeRows_L8 N g x1 x2 K8 n8) x3 x4 x5 K25 n25 x6 σ) 25 [(0, .ref (ea E g)), (1, .int x1), (2, .int x2), (3, .int x3), (4, .int x4), (5, .int x5), (6, .int x6)] [] σ 0 0 := by
        intro x3 x4 x5 K25 HK25 n25
        induction n25 with
        | zero => intro x6 σ; exact j_none
        | succ n25 ih25 =>
          intro x6 σ
          show J E 7 p l e rm3_freeRows s m args below meth c (QI E below args s rm3_freeRows.cells rm3_freeRows.slots) (f3_freeRows_B25 N g x1 x2 K8 (f3_freeRows_L8 N g x1 x2 K8 n8) x3 x4 x5 K25 (f3_freeRows_L25 N g x1 x2 K8 (f3_freeRows_L8 N g x1 x2 K8 n8) x3 x4 x5 K25 n25) x6 σ) 25 [(0, .ref (ea E g)), (1, .int x1), (2, .int x2), (3, .int x3), (4, .int x4), (5, .int x5), (6, .int x6)] [] σ 0 0
          unfold f3_freeRows_B25
          refine j_iload 6 C dX3_freeRows_25 rfl ?_
          refine j_iload_n 2 C dX3_freeRows_27 rfl rfl ?_
          refine j_ige 63 C dX3_freeRows_28 (by decide) ?_ ?_
          · exact j_sub [0, 1, 2, 3, 4] rfl (HK25 σ)
          · refine j_iload 5 C dX3_freeRows_31 rfl ?_
            refine j_iload 6 C dX3_freeRows_33 rfl ?_
            refine j_iadd C dX3_freeRows_35 ?_
            refine j_callNI [.int (x5 + x6)] (con5_isCellIndex N (x5 + x6)) C mi5_isCellIndex ms5_isCellIndex lk3_131 rfl rfl ⟨Nat.le_of_ble_eq_true rfl, Nat.le_of_ble_eq_true rfl, Nat.le_of_ble_eq_true rfl, Nat.le_of_ble_eq_true rfl, Nat.le_of_ble_eq_true rfl⟩ dX3_freeRows_36 (fun r36 σ36 => ?_)
            refine j_zeq 55 C dX3_freeRows_39 (by decide) ?_ ?_
            · refine j_iload_n 3 C dX3_freeRows_55 rfl rfl ?_
              exact j_iret C hr hlocks rfl dX3_freeRows_56 (Nat.le_of_ble_eq_true rfl) (Nat.le_of_ble_eq_true rfl)
            · refine j_aload_n 0 C dX3_freeRows_42 rfl rfl ?_
              refine j_get 1 C fl3_18 (P_lt hg) (ct_P E hg _) rfl dX3_freeRows_43 ?_
              refine j_iload 5 C dX3_freeRows_46 rfl ?_
              refine j_iload 6 C dX3_freeRows_48 rfl ?_
              refine j_iadd C dX3_freeRows_50 ?_
              refine j_iald C (P_lt1 hg) (ct_P1 E hg _) dX3_freeRows_51 ?_
              refine j_zeq 57 C dX3_freeRows_52 (by decide) ?_ ?_
              · refine j_iinc 6 1 [(6, .int (x6 + 1)), (0, .ref (ea E g)), (1, .int x1), (2, .int x2), (3, .int x3), (4, .int x4), (5, .int x5)] C dX3_freeRows_57 rfl rfl (by decide) rfl ?_
                refine j_goto 25 C dX3_freeRows_60 (by decide) ?_
                exact j_sub [1, 2, 3, 4, 5, 6, 0] rfl (ih25 (x6 + 1) σ36)
              · refine j_iload_n 3 C dX3_freeRows_55 rfl rfl ?_
                exact j_iret C hr hlocks rfl dX3_freeRows_56 (Nat.le_of_ble_eq_true rfl) (Nat.le_of_ble_eq_true rfl)
      intro x3 x4 σ
      show J E 7 p l e rm3_freeRows s m args below meth c (QI E below args s rm3_freeRows.cells rm3_freeRows.slots) (f3_freeRows_B8 N g x1 x2 K8 (f3_freeRows_L8 N g x1 x2 K8 n8) x3 x4 σ) 8 [(0, .ref (ea E g)), (1, .int x1), (2, .int x2), (3, .int x3), (4, .int x4)] [] σ 0 0
      unfold f3_freeRows_B8
      refine j_iload 4 C dX3_freeRows_8 rfl ?_
      refine j_bipush (v := 24) 24 C dX3_freeRows_10 (by decide) ?_
      refine j_ige 72 C dX3_freeRows_12 (by decide) ?_ ?_
      · exact j_sub [3] rfl (HK8 x3 σ)
      · refine j_iload_n 1 C dX3_freeRows_15 rfl rfl ?_
        refine j_iload_n 3 C dX3_freeRows_16 rfl rfl ?_
        refine j_iconst (v := 5) 5 C dX3_freeRows_17 (by decide) ?_
        refine j_imul C dX3_freeRows_18 ?_
        refine j_iadd C dX3_freeRows_19 ?_
        refine j_istore [(5, .int (x1 + (x3 * 5))), (0, .ref (ea E g)), (1, .int x1), (2, .int x2), (3, .int x3), (4, .int x4)] C dX3_freeRows_20 (by decide) rfl ?_
        refine j_iconst (v := 0) 0 C dX3_freeRows_22 (by decide) ?_
        refine j_istore [(6, .int 0), (5, .int (x1 + (x3 * 5))), (0, .ref (ea E g)), (1, .int x1), (2, .int x2), (3, .int x3), (4, .int x4)] C dX3_freeRows_23 (by decide) rfl ?_
        refine j_sub [2, 3, 4, 5, 6, 1, 0] rfl (wL25 x3 x4 (x1 + (x3 * 5)) _ (fun σL25 => ?_) N 0 σ)
        refine j_iinc 3 1 [(3, .int (x3 + 1)), (0, .ref (ea E g)), (1, .int x1), (2, .int x2), (4, .int x4)] C dX3_freeRows_63 rfl rfl (by decide) rfl ?_
        refine j_iinc 4 1 [(4, .int (x4 + 1)), (3, .int (x3 + 1)), (0, .ref (ea E g)), (1, .int x1), (2, .int x2)] C dX3_freeRows_66 rfl rfl (by decide) rfl ?_
        refine j_goto 8 C dX3_freeRows_69 (by decide) ?_
        exact j_sub [2, 3, 4, 1, 0] rfl (ih8 (x3 + 1) (x4 + 1) σL25)
  unfold f3_freeRows
  refine j_iconst (v := 0) 0 C dX3_freeRows_0 (by decide) ?_
  refine j_istore_n [(3, .int 0), (0, .ref (ea E g)), (1, .int x1), (2, .int x2)] C dX3_freeRows_1 rfl (by decide) rfl ?_
  refine j_iload_n 2 C dX3_freeRows_2 rfl rfl ?_
  refine j_callNI [.int x1] (con5_rowOf N x1) C mi5_rowOf ms5_rowOf lk3_128 rfl rfl ⟨Nat.le_of_ble_eq_true rfl, Nat.le_of_ble_eq_true rfl, Nat.le_of_ble_eq_true rfl, Nat.le_of_ble_eq_true rfl, Nat.le_of_ble_eq_true rfl⟩ dX3_freeRows_3 (fun r3 σ3 => ?_)
  refine j_istore [(4, .int r3), (3, .int 0), (0, .ref (ea E g)), (1, .int x1), (2, .int x2)] C dX3_freeRows_6 (by decide) rfl ?_
  refine j_sub [2, 3, 4, 1, 0] rfl (wL8 _ (fun x3_8 σL8 => ?_) N 0 r3 σ3)
  refine j_iload_n 0 C dX3_freeRows_72 rfl rfl ?_
  exact j_iret C hr hlocks rfl dX3_freeRows_73 (Nat.le_of_ble_eq_true rfl) (Nat.le_of_ble_eq_true rfl)
set_option maxHeartbeats 4000000 in
set_option maxRecDepth 100000 in
theorem con3_findBlock (N : Nat) (g : Nat) (x1 : Int32) (x2 : Int32) (x3 : Int32) (x4 : Int32) (hg : isP g) : ConI yX3_findBlock cX3_findBlock 9 .int rm3_findBlock (fun E => [.ref (ea E g), .int x1, .int x2, .int x3, .int x4]) (f3_findBlock N g x1 x2 x3 x4) := by
  refine conI_of (L := fun E => [(0, .ref (ea E g)), (1, .int x1), (2, .int x2), (3, .int x3), (4, .int x4)]) (by decide) (fun _ => Nat.le_of_ble_eq_true rfl) (fun _ => rfl) ?_
  intro l E σ p e s m args below meth c C hr hlocks
  have wL3 : ∀ (K3 : Hp → Option (Int32 × Hp)), (∀ (σ : Hp), J E 9 p l e rm3_findBlock s m args below meth c (QI E below args s rm3_findBlock.cells rm3_findBlock.slots) (K3 σ) 77 [] [] σ 0 0) → ∀ (n3 : Nat) (x5 : Int32) (σ : Hp), J E 9 p l e rm3_findBlock s m args below meth c (QI E below args s rm3_findBlock.cells rm3_findBlock.slots) (f3_findBlock_L3 N g x1 x2 x3 x4 K3 n3 x5 σ) 3 [(0, .ref (ea E g)), (2, .int x2), (3, .int x3), (4, .int x4), (5, .int x5)] [] σ 0 0 := by
    intro K3 HK3 n3
    induction n3 with
    | zero => intro x5 σ; exact j_none
    | succ n3 ih3 =>
      have wL12 : ∀ (x5 : Int32) (K12 : Hp → Option (Int32 × Hp)), (∀ (σ : Hp), J E 9 p l e rm3_findBlock s m args below meth c (QI E below args s rm3_findBlock.cells rm3_findBlock.slots) (K12 σ) 71 [(0, .ref (ea E g)), (2, .int x2), (3, .int x3), (4, .int x4), (5, .int x5)] [] σ 0 0) → ∀ (n12 : Nat) (x6 : Int32) (σ : Hp), J E 9 p l e rm3_findBlock s m args below meth c (QI E below args s rm3_findBlock.cells rm3_findBlock.slots) (f3_findBlock_L12 N g x1 x2 x3 x4 K3 (f3_findBlock_L3 N g x1 x2 x3 x4 K3 n3) x5 K12 n12 x6 σ) 12 [(0, .ref (ea E g)), (2, .int x2), (3, .int x3), (4, .int x4), (5, .int x5), (6, .int x6)] [] σ 0 0 := by
        intro x5 K12 HK12 n12
        induction n12 with
        | zero => intro x6 σ; exact j_none
        | succ n12 ih12 =>
          have wL25 : ∀ (x6 : Int32) (K25 : Hp → Option (Int32 × Hp)), (∀ (σ : Hp), J E 9 p l e rm3_findBlock s m args below meth c (QI E below args s rm3_findBlock.cells rm3_findBlock.slots) (K25 σ) 65 [(0, .ref (ea E g)), (2, .int x2), (3, .int x3), (4, .int x4), (5, .int x5), (6, .int x6)] [] σ 0 0) → ∀ (n25 : Nat) (x7 : Int32) (σ : Hp), J E 9 p l e rm3_findBlock s m args below meth c (QI E below args s rm3_findBlock.cells rm3_findBlock.slots) (f3_findBlock_L25 N g x1 x2 x3 x4 K3 (f3_findBlock_L3 N g x1 x2 x3 x4 K3 n3) x5 K12 (f3_findBlock_L12 N g x1 x2 x3 x4 K3 (f3_findBlock_L3 N g x1 x2 x3 x4 K3 n3) x5 K12 n12) x6 K25 n25 x7 σ) 25 [(0, .ref (ea E g)), (2, .int x2), (3, .int x3), (4, .int x4), (5, .int x5), (6, .int x6), (7, .int x7)] [] σ 0 0 := by
            intro x6 K25 HK25 n25
            induction n25 with
            | zero => intro x7 σ; exact j_none
            | succ n25 ih25 =>
              intro x7 σ
              show J E 9 p l e rm3_findBlock s m args below meth c (QI E below args s rm3_findBlock.cells rm3_findBlock.slots) (f3_findBlock_B25 N g x1 x2 x3 x4 K3 (f3_findBlock_L3 N g x1 x2 x3 x4 K3 n3) x5 K12 (f3_findBlock_L12 N g x1 x2 x3 x4 K3 (f3_findBlock_L3 N g x1 x2 x3 x4 K3 n3) x5 K12 n12) x6 K25 (f3_findBlock_L25 N g x1 x2 x3 x4 K3 (f3_findBlock_L3 N g x1 x2 x3 x4 K3 n3) x5 K12 (f3_findBlock_L12 N g x1 x2 x3 x4 K3 (f3_findBlock_L3 N g x1 x2 x3 x4 K3 n3) x5 K12 n12) x6 K25 n25) x7 σ) 25 [(0, .ref (ea E g)), (2, .int x2), (3, .int x3), (4, .int x4), (5, .int x5), (6, .int x6), (7, .int x7)] [] σ 0 0
              unfold f3_findBlock_B25
              refine j_iload 6 C dX3_findBlock_25 rfl ?_
              refine j_iconst (v := 5) 5 C dX3_findBlock_27 (by decide) ?_
              refine j_iload_n 2 C dX3_findBlock_28 rfl rfl ?_
              refine j_isub C dX3_findBlock_29 ?_
              refine j_igt 65 C dX3_findBlock_30 (by decide) ?_ ?_
              · exact j_sub [0, 1, 2, 3, 4, 5] rfl (HK25 σ)
              · refine j_iload 4 C dX3_findBlock_33 rfl ?_
                refine j_iload 6 C dX3_findBlock_35 rfl ?_
                refine j_iload 5 C dX3_findBlock_37 rfl ?_
                refine j_callNI [.int x5, .int x7, .int x6] (con5_cellIndex N x5 x7 x6) C mi5_cellIndex ms5_cellIndex lk3_72 rfl rfl ⟨Nat.le_of_ble_eq_true rfl, Nat.le_of_ble_eq_true rfl, Nat.le_of_ble_eq_true rfl, Nat.le_of_ble_eq_true rfl, Nat.le_of_ble_eq_true rfl⟩ dX3_findBlock_39 (fun r39 σ39 => ?_)
                refine j_istore [(8, .int r39), (0, .ref (ea E g)), (2, .int x2), (3, .int x3), (4, .int x4), (5, .int x5), (6, .int x6), (7, .int x7)] C dX3_findBlock_42 (by decide) rfl ?_
                refine j_aload_n 1 C dX3_findBlock_44 rfl rfl ?_
                refine j_iload 0 C dX3_findBlock_45 rfl ?_
                refine j_iload_n 3 C dX3_findBlock_47 rfl rfl ?_
                refine j_callVI [.int r39, .int x3] (con3_freeRows N g r39 x3 hg) C mi3_freeRows mv3_freeRows lk3_125 (P_lt hg) (ct_P E hg _) rfl rfl rfl ⟨Nat.le_of_ble_eq_true rfl, Nat.le_of_ble_eq_true rfl, Nat.le_of_ble_eq_true rfl, Nat.le_of_ble_eq_true rfl, Nat.le_of_ble_eq_true rfl⟩ dX3_findBlock_48 (fun r48 σ48 => ?_)
                refine j_iload 4 C dX3_findBlock_51 rfl ?_
                refine j_ilt 59 C dX3_findBlock_53 (by decide) ?_ ?_
                · refine j_iinc 7 1 [(7, .int (x7 + 1)), (8, .int r39), (0, .ref (ea E g)), (2, .int x2), (3, .int x3), (4, .int x4), (5, .int x5), (6, .int x6)] C dX3_findBlock_59 rfl rfl (by decide) rfl ?_
                  refine j_goto 25 C dX3_findBlock_62 (by decide) ?_
                  exact j_sub [2, 3, 4, 5, 6, 7, 0] rfl (ih25 (x7 + 1) σ48)
                · refine j_iload 0 C dX3_findBlock_56 rfl ?_
                  exact j_iret C hr hlocks rfl dX3_findBlock_58 (Nat.le_of_ble_eq_true rfl) (Nat.le_of_ble_eq_true rfl)
          intro x6 σ
          show J E 9 p l e rm3_findBlock s m args below meth c (QI E below args s rm3_findBlock.cells rm3_findBlock.slots) (f3_findBlock_B12 N g x1 x2 x3 x4 K3 (f3_findBlock_L3 N g x1 x2 x3 x4 K3 n3) x5 K12 (f3_findBlock_L12 N g x1 x2 x3 x4 K3 (f3_findBlock_L3 N g x1 x2 x3 x4 K3 n3) x5 K12 n12) x6 σ) 12 [(0, .ref (ea E g)), (2, .int x2), (3, .int x3), (4, .int x4), (5, .int x5), (6, .int x6)] [] σ 0 0
          unfold f3_findBlock_B12
          refine j_iload 5 C dX3_findBlock_12 rfl ?_
          refine j_bipush (v := 24) 24 C dX3_findBlock_14 (by decide) ?_
          refine j_iload 3 C dX3_findBlock_16 rfl ?_
          refine j_isub C dX3_findBlock_18 ?_
          refine j_igt 71 C dX3_findBlock_19 (by decide) ?_ ?_
          · exact j_sub [0, 1, 2, 3, 4] rfl (HK12 σ)
          · refine j_iconst (v := 0) 0 C dX3_findBlock_22 (by decide) ?_
            refine j_istore [(7, .int 0), (0, .ref (ea E g)), (2, .int x2), (3, .int x3), (4, .int x4), (5, .int x5), (6, .int x6)] C dX3_findBlock_23 (by decide) rfl ?_
            refine j_sub [1, 2, 3, 4, 5, 6, 0] rfl (wL25 x6 _ (fun σL25 => ?_) N 0 σ)
            refine j_iinc 5 1 [(6, .int (x6 + 1)), (0, .ref (ea E g)), (2, .int x2), (3, .int x3), (4, .int x4), (5, .int x5)] C dX3_findBlock_65 rfl rfl (by decide) rfl ?_
            refine j_goto 12 C dX3_findBlock_68 (by decide) ?_
            exact j_sub [1, 2, 3, 4, 5, 0] rfl (ih12 (x6 + 1) σL25)
      intro x5 σ
      show J E 9 p l e rm3_findBlock s m args below meth c (QI E below args s rm3_findBlock.cells rm3_findBlock.slots) (f3_findBlock_B3 N g x1 x2 x3 x4 K3 (f3_findBlock_L3 N g x1 x2 x3 x4 K3 n3) x5 σ) 3 [(0, .ref (ea E g)), (2, .int x2), (3, .int x3), (4, .int x4), (5, .int x5)] [] σ 0 0
      unfold f3_findBlock_B3
      refine j_iload 4 C dX3_findBlock_3 rfl ?_
      refine j_iload_n 1 C dX3_findBlock_5 rfl rfl ?_
      refine j_igt 77 C dX3_findBlock_6 (by decide) ?_ ?_
      · exact j_sub [] rfl (HK3 σ)
      · refine j_iconst (v := 0) 0 C dX3_findBlock_9 (by decide) ?_
        refine j_istore [(6, .int 0), (0, .ref (ea E g)), (2, .int x2), (3, .int x3), (4, .int x4), (5, .int x5)] C dX3_findBlock_10 (by decide) rfl ?_
        refine j_sub [1, 2, 3, 4, 5, 0] rfl (wL12 x5 _ (fun σL12 => ?_) N 0 σ)
        refine j_iinc 4 1 [(5, .int (x5 + 1)), (0, .ref (ea E g)), (2, .int x2), (3, .int x3), (4, .int x4)] C dX3_findBlock_71 rfl rfl (by decide) rfl ?_
        refine j_goto 3 C dX3_findBlock_74 (by decide) ?_
        exact j_sub [1, 2, 3, 4, 0] rfl (ih3 (x5 + 1) σL12)
  unfold f3_findBlock
  refine j_iload_n 1 C dX3_findBlock_0 rfl rfl ?_
  refine j_istore [(5, .int x1), (0, .ref (ea E g)), (1, .int x1), (2, .int x2), (3, .int x3), (4, .int x4)] C dX3_findBlock_1 (by decide) rfl ?_
  refine j_sub [1, 3, 4, 5, 0] rfl (wL3 _ (fun σL3 => ?_) N x1 σ)
  refine j_iconst (v := (-1)) (-1) C dX3_findBlock_77 (by decide) ?_
  exact j_iret C hr hlocks rfl dX3_findBlock_78 (Nat.le_of_ble_eq_true rfl) (Nat.le_of_ble_eq_true rfl)
set_option maxHeartbeats 4000000 in
set_option maxRecDepth 100000 in
theorem con3_findStart (N : Nat) (g : Nat) (x1 : Int32) (hg : isP g) : ConI yX3_findStart cX3_findStart 5 .int rm3_findStart (fun E => [.ref (ea E g), .int x1]) (f3_findStart N g x1) := by
  refine conI_of (L := fun E => [(0, .ref (ea E g)), (1, .int x1)]) (by decide) (fun _ => Nat.le_of_ble_eq_true rfl) (fun _ => rfl) ?_
  intro l E σ p e s m args below meth c C hr hlocks
  have wJ26 : ∀ (x2 : Int32) (y0 : Int32) (σ : Hp), J E 5 p l e rm3_findStart s m args below meth c (QI E below args s rm3_findStart.cells rm3_findStart.slots) (f3_findStart_J26 N g x1 x2 y0 σ) 26 [(0, .ref (ea E g)), (1, .int x1), (2, .int x2)] [.int y0] σ 0 0 := by
    intro x2 y0 σ
    unfold f3_findStart_J26
    refine j_istore_n [(3, .int y0), (0, .ref (ea E g)), (1, .int x1), (2, .int x2)] C dX3_findStart_26 rfl (by decide) rfl ?_
    refine j_aload_n 1 C dX3_findStart_27 rfl rfl ?_
    refine j_get 0 C fl3_12 (P_lt hg) (ct_P E hg _) rfl dX3_findStart_28 ?_
    refine j_iload_n 2 C dX3_findStart_31 rfl rfl ?_
    refine j_callVI [.int x1] (con1_headRows N (edOf g) x1 (isE_ed hg)) C mi1_headRows mv1_headRows lk3_115 (E_lt (isE_ed hg)) (ct_E E (isE_ed hg) _) rfl rfl rfl ⟨Nat.le_of_ble_eq_true rfl, Nat.le_of_ble_eq_true rfl, Nat.le_of_ble_eq_true rfl, Nat.le_of_ble_eq_true rfl, Nat.le_of_ble_eq_true rfl⟩ dX3_findStart_32 (fun r32 σ32 => ?_)
    refine j_iconst (v := 2) 2 C dX3_findStart_35 (by decide) ?_
    refine j_iadd C dX3_findStart_36 ?_
    refine j_istore [(4, .int (r32 + 2)), (3, .int y0), (0, .ref (ea E g)), (1, .int x1), (2, .int x2)] C dX3_findStart_37 (by decide) rfl ?_
    refine j_aload_n 2 C dX3_findStart_39 rfl rfl ?_
    refine j_iload_n 4 C dX3_findStart_40 rfl rfl ?_
    refine j_iload_n 1 C dX3_findStart_41 rfl rfl ?_
    refine j_aload_n 2 C dX3_findStart_42 rfl rfl ?_
    refine j_get 0 C fl3_12 (P_lt hg) (ct_P E hg _) rfl dX3_findStart_43 ?_
    refine j_iload_n 3 C dX3_findStart_46 rfl rfl ?_
    refine j_iconst (v := 1) 1 C dX3_findStart_47 (by decide) ?_
    refine j_callVI [.int x1, .int 1] (con1_storyNumber N (edOf g) x1 1 (isE_ed hg)) C mi1_storyNumber mv1_storyNumber lk3_96 (E_lt (isE_ed hg)) (ct_E E (isE_ed hg) _) rfl rfl rfl ⟨Nat.le_of_ble_eq_true rfl, Nat.le_of_ble_eq_true rfl, Nat.le_of_ble_eq_true rfl, Nat.le_of_ble_eq_true rfl, Nat.le_of_ble_eq_true rfl⟩ dX3_findStart_48 (fun r48 σ48 => ?_)
    refine j_iload 0 C dX3_findStart_51 rfl ?_
    refine j_callVI [.int x2, .int y0, .int r48, .int (r32 + 2)] (con3_findBlock N g x2 y0 r48 (r32 + 2) hg) C mi3_findBlock mv3_findBlock lk3_118 (P_lt hg) (ct_P E hg _) rfl rfl rfl ⟨Nat.le_of_ble_eq_true rfl, Nat.le_of_ble_eq_true rfl, Nat.le_of_ble_eq_true rfl, Nat.le_of_ble_eq_true rfl, Nat.le_of_ble_eq_true rfl⟩ dX3_findStart_53 (fun r53 σ53 => ?_)
    exact j_iret C hr hlocks rfl dX3_findStart_56 (Nat.le_of_ble_eq_true rfl) (Nat.le_of_ble_eq_true rfl)
  unfold f3_findStart
  refine j_aload_n 0 C dX3_findStart_0 rfl rfl ?_
  refine j_get 0 C fl3_12 (P_lt hg) (ct_P E hg _) rfl dX3_findStart_1 ?_
  refine j_iload_n 1 C dX3_findStart_4 rfl rfl ?_
  refine j_iconst (v := 0) 0 C dX3_findStart_5 (by decide) ?_
  refine j_callVI [.int x1, .int 0] (con1_storyNumber N (edOf g) x1 0 (isE_ed hg)) C mi1_storyNumber mv1_storyNumber lk3_96 (E_lt (isE_ed hg)) (ct_E E (isE_ed hg) _) rfl rfl rfl ⟨Nat.le_of_ble_eq_true rfl, Nat.le_of_ble_eq_true rfl, Nat.le_of_ble_eq_true rfl, Nat.le_of_ble_eq_true rfl, Nat.le_of_ble_eq_true rfl⟩ dX3_findStart_6 (fun r6 σ6 => ?_)
  refine j_istore_n [(2, .int r6), (0, .ref (ea E g)), (1, .int x1)] C dX3_findStart_9 rfl (by decide) rfl ?_
  refine j_aload_n 1 C dX3_findStart_10 rfl rfl ?_
  refine j_get 0 C fl3_12 (P_lt hg) (ct_P E hg _) rfl dX3_findStart_11 ?_
  refine j_iload_n 2 C dX3_findStart_14 rfl rfl ?_
  refine j_callVI [.int x1] (con1_isLate N (edOf g) x1 (isE_ed hg)) C mi1_isLate mv1_isLate lk3_93 (E_lt (isE_ed hg)) (ct_E E (isE_ed hg) _) rfl rfl rfl ⟨Nat.le_of_ble_eq_true rfl, Nat.le_of_ble_eq_true rfl, Nat.le_of_ble_eq_true rfl, Nat.le_of_ble_eq_true rfl, Nat.le_of_ble_eq_true rfl⟩ dX3_findStart_15 (fun r15 σ15 => ?_)
  refine j_zeq 25 C dX3_findStart_18 (by decide) ?_ ?_
  · refine j_iconst (v := 3) 3 C dX3_findStart_25 (by decide) ?_
    exact j_sub [1, 2, 0] rfl (wJ26 r6 3 σ15)
  · refine j_iload_n 0 C dX3_findStart_21 rfl rfl ?_
    refine j_goto 26 C dX3_findStart_22 (by decide) ?_
    exact j_sub [1, 2, 0] rfl (wJ26 r6 r6 σ15)
set_option maxHeartbeats 4000000 in
set_option maxRecDepth 100000 in
theorem con3_findGoOn (N : Nat) (g : Nat) (x1 : Int32) (hg : isP g) : ConI yX3_findGoOn cX3_findGoOn 2 .int rm3_findGoOn (fun E => [.ref (ea E g), .int x1]) (f3_findGoOn N g x1) := by
  refine conI_of (L := fun E => [(0, .ref (ea E g)), (1, .int x1)]) (by decide) (fun _ => Nat.le_of_ble_eq_true rfl) (fun _ => rfl) ?_
  intro l E σ p e s m args below meth c C hr hlocks
  unfold f3_findGoOn
  refine j_aload_n 0 C dX3_findGoOn_0 rfl rfl ?_
  refine j_iload_n 1 C dX3_findGoOn_1 rfl rfl ?_
  refine j_callNI [.int x1] (con5_pageOf N x1) C mi5_pageOf ms5_pageOf lk3_122 rfl rfl ⟨Nat.le_of_ble_eq_true rfl, Nat.le_of_ble_eq_true rfl, Nat.le_of_ble_eq_true rfl, Nat.le_of_ble_eq_true rfl, Nat.le_of_ble_eq_true rfl⟩ dX3_findGoOn_2 (fun r2 σ2 => ?_)
  refine j_iconst (v := 1) 1 C dX3_findGoOn_5 (by decide) ?_
  refine j_iadd C dX3_findGoOn_6 ?_
  refine j_iconst (v := 3) 3 C dX3_findGoOn_7 (by decide) ?_
  refine j_iconst (v := 1) 1 C dX3_findGoOn_8 (by decide) ?_
  refine j_iconst (v := 3) 3 C dX3_findGoOn_9 (by decide) ?_
  refine j_callVI [.int (r2 + 1), .int 3, .int 1, .int 3] (con3_findBlock N g (r2 + 1) 3 1 3 hg) C mi3_findBlock mv3_findBlock lk3_118 (P_lt hg) (ct_P E hg _) rfl rfl rfl ⟨Nat.le_of_ble_eq_true rfl, Nat.le_of_ble_eq_true rfl, Nat.le_of_ble_eq_true rfl, Nat.le_of_ble_eq_true rfl, Nat.le_of_ble_eq_true rfl⟩ dX3_findGoOn_10 (fun r10 σ10 => ?_)
  exact j_iret C hr hlocks rfl dX3_findGoOn_13 (Nat.le_of_ble_eq_true rfl) (Nat.le_of_ble_eq_true rfl)
set_option maxHeartbeats 4000000 in
set_option maxRecDepth 100000 in
theorem con3_putStartDepth (N : Nat) (g : Nat) (x1 : Int32) (x2 : Int32) (hg : isP g) : ConV yX3_putStartDepth cX3_putStartDepth 3 rm3_putStartDepth (fun E => [.ref (ea E g), .int x1, .int x2]) (f3_putStartDepth N g x1 x2) := by
  refine conV_of (L := fun E => [(0, .ref (ea E g)), (1, .int x1), (2, .int x2)]) (by decide) (fun _ => Nat.le_of_ble_eq_true rfl) (fun _ => rfl) ?_
  intro l E σ p e s m args below meth c C hr hlocks
  unfold f3_putStartDepth
  refine j_iload_n 1 C dX3_putStartDepth_0 rfl rfl ?_
  refine j_callNI [.int x1] (con5_isStoryIndex N x1) C mi5_isStoryIndex ms5_isStoryIndex lk3_86 rfl rfl ⟨Nat.le_of_ble_eq_true rfl, Nat.le_of_ble_eq_true rfl, Nat.le_of_ble_eq_true rfl, Nat.le_of_ble_eq_true rfl, Nat.le_of_ble_eq_true rfl⟩ dX3_putStartDepth_1 (fun r1 σ1 => ?_)
  refine j_zeq 14 C dX3_putStartDepth_4 (by decide) ?_ ?_
  · exact j_vret C hr hlocks dX3_putStartDepth_14 (Nat.le_of_ble_eq_true rfl) (Nat.le_of_ble_eq_true rfl)
  · refine j_aload_n 0 C dX3_putStartDepth_7 rfl rfl ?_
    refine j_get 8 C fl3_40 (P_lt hg) (ct_P E hg _) rfl dX3_putStartDepth_8 ?_
    refine j_iload_n 1 C dX3_putStartDepth_11 rfl rfl ?_
    refine j_iload_n 2 C dX3_putStartDepth_12 rfl rfl ?_
    refine j_iast C (P_lt8 hg) (ct_P8 E hg) dX3_putStartDepth_13 ?_
    exact j_vret C hr hlocks dX3_putStartDepth_14 (Nat.le_of_ble_eq_true rfl) (Nat.le_of_ble_eq_true rfl)
set_option maxHeartbeats 4000000 in
set_option maxRecDepth 100000 in
theorem con3_linesOfColumn (N : Nat) (x0 : Int32) (x1 : Int32) (x2 : Int32) : ConI yX3_linesOfColumn cX3_linesOfColumn 3 .int rm3_linesOfColumn (fun E => [.int x0, .int x1, .int x2]) (f3_linesOfColumn N x0 x1 x2) := by
  refine conI_of (L := fun E => [(0, .int x0), (1, .int x1), (2, .int x2)]) (by decide) (fun _ => Nat.le_of_ble_eq_true rfl) (fun _ => rfl) ?_
  intro l E σ p e s m args below meth c C hr hlocks
  unfold f3_linesOfColumn
  refine j_iload_n 1 C dX3_linesOfColumn_0 rfl rfl ?_
  refine j_iconst (v := 1) 1 C dX3_linesOfColumn_1 (by decide) ?_
  refine j_ige 9 C dX3_linesOfColumn_2 (by decide) ?_ ?_
  · refine j_iload_n 0 C dX3_linesOfColumn_9 rfl rfl ?_
    refine j_iload_n 1 C dX3_linesOfColumn_10 rfl rfl ?_
    refine j_iadd C dX3_linesOfColumn_11 ?_
    refine j_iconst (v := 1) 1 C dX3_linesOfColumn_12 (by decide) ?_
    refine j_isub C dX3_linesOfColumn_13 ?_
    refine j_iload_n 2 C dX3_linesOfColumn_14 rfl rfl ?_
    refine j_isub C dX3_linesOfColumn_15 ?_
    refine j_iload_n 1 C dX3_linesOfColumn_16 rfl rfl ?_
    refine j_idiv C dX3_linesOfColumn_17 ?_
    exact j_iret C hr hlocks rfl dX3_linesOfColumn_18 (Nat.le_of_ble_eq_true rfl) (Nat.le_of_ble_eq_true rfl)
  · refine j_iconst (v := 0) 0 C dX3_linesOfColumn_5 (by decide) ?_
    refine j_goto 18 C dX3_linesOfColumn_6 (by decide) ?_
    exact j_iret C hr hlocks rfl dX3_linesOfColumn_18 (Nat.le_of_ble_eq_true rfl) (Nat.le_of_ble_eq_true rfl)
set_option maxHeartbeats 4000000 in
set_option maxRecDepth 100000 in
theorem con3_partCountOf (N : Nat) (g : Nat) (x1 : Int32) (hg : isP g) : ConI yX3_partCountOf cX3_partCountOf 2 .int rm3_partCountOf (fun E => [.ref (ea E g), .int x1]) (f3_partCountOf N g x1) := by
  refine conI_of (L := fun E => [(0, .ref (ea E g)), (1, .int x1)]) (by decide) (fun _ => Nat.le_of_ble_eq_true rfl) (fun _ => rfl) ?_
  intro l E σ p e s m args below meth c C hr hlocks
  unfold f3_partCountOf
  refine j_iload_n 1 C dX3_partCountOf_0 rfl rfl ?_
  refine j_callNI [.int x1] (con5_isStoryIndex N x1) C mi5_isStoryIndex ms5_isStoryIndex lk3_86 rfl rfl ⟨Nat.le_of_ble_eq_true rfl, Nat.le_of_ble_eq_true rfl, Nat.le_of_ble_eq_true rfl, Nat.le_of_ble_eq_true rfl, Nat.le_of_ble_eq_true rfl⟩ dX3_partCountOf_1 (fun r1 σ1 => ?_)
  refine j_zeq 16 C dX3_partCountOf_4 (by decide) ?_ ?_
  · refine j_iconst (v := 0) 0 C dX3_partCountOf_16 (by decide) ?_
    exact j_iret C hr hlocks rfl dX3_partCountOf_17 (Nat.le_of_ble_eq_true rfl) (Nat.le_of_ble_eq_true rfl)
  · refine j_aload_n 0 C dX3_partCountOf_7 rfl rfl ?_
    refine j_get 5 C fl3_31 (P_lt hg) (ct_P E hg _) rfl dX3_partCountOf_8 ?_
    refine j_iload_n 1 C dX3_partCountOf_11 rfl rfl ?_
    refine j_iald C (P_lt5 hg) (ct_P5 E hg _) dX3_partCountOf_12 ?_
    refine j_goto 17 C dX3_partCountOf_13 (by decide) ?_
    exact j_iret C hr hlocks rfl dX3_partCountOf_17 (Nat.le_of_ble_eq_true rfl) (Nat.le_of_ble_eq_true rfl)
set_option maxHeartbeats 4000000 in
set_option maxRecDepth 100000 in
theorem con3_addPart (N : Nat) (g : Nat) (x1 : Int32) (x2 : Int32) (x3 : Int32) (x4 : Int32) (x5 : Int32) (x6 : Int32) (hg : isP g) : ConV yX3_addPart cX3_addPart 9 rm3_addPart (fun E => [.ref (ea E g), .int x1, .int x2, .int x3, .int x4, .int x5, .int x6]) (f3_addPart N g x1 x2 x3 x4 x5 x6) := by
  refine conV_of (L := fun E => [(0, .ref (ea E g)), (1, .int x1), (2, .int x2), (3, .int x3), (4, .int x4), (5, .int x5), (6, .int x6)]) (by decide) (fun _ => Nat.le_of_ble_eq_true rfl) (fun _ => rfl) ?_
  intro l E σ p e s m args below meth c C hr hlocks
  have wJ170 : ∀ (x7 : Int32) (y0 : Int32) (y1 : Int32) (σ : Hp), J E 9 p l e rm3_addPart s m args below meth c (QV E below args s rm3_addPart.cells rm3_addPart.slots) (f3_addPart_J170 N g x1 x2 x3 x4 x5 x6 x7 y0 y1 σ) 170 [(0, .ref (ea E g)), (1, .int x1), (5, .int x5), (7, .int x7)] [.int y0, .int y1, .ref (ea E (g + 6))] σ 0 0 := by
    intro x7 y0 y1 σ
    unfold f3_addPart_J170
    refine j_iast C (P_lt6 hg) (ct_P6 E hg) dX3_addPart_170 ?_
    refine j_aload_n 0 C dX3_addPart_171 rfl rfl ?_
    refine j_get 7 C fl3_37 (P_lt hg) (ct_P E hg _) rfl dX3_addPart_172 ?_
    refine j_iload_n 1 C dX3_addPart_175 rfl rfl ?_
    refine j_dup2 C dX3_addPart_176 rfl rfl ?_
    refine j_iald C (P_lt7 hg) (ct_P7 E hg _) dX3_addPart_177 ?_
    refine j_iload 2 C dX3_addPart_178 rfl ?_
    refine j_iadd C dX3_addPart_180 ?_
    refine j_iast C (P_lt7 hg) (ct_P7 E hg) dX3_addPart_181 ?_
    refine j_aload_n 0 C dX3_addPart_182 rfl rfl ?_
    refine j_get 5 C fl3_31 (P_lt hg) (ct_P E hg _) rfl dX3_addPart_183 ?_
    refine j_iload_n 1 C dX3_addPart_186 rfl rfl ?_
    refine j_iload 3 C dX3_addPart_187 rfl ?_
    refine j_iconst (v := 1) 1 C dX3_addPart_189 (by decide) ?_
    refine j_iadd C dX3_addPart_190 ?_
    refine j_iast C (P_lt5 hg) (ct_P5 E hg) dX3_addPart_191 ?_
    exact j_vret C hr hlocks dX3_addPart_192 (Nat.le_of_ble_eq_true rfl) (Nat.le_of_ble_eq_true rfl)
  have wJ143 : ∀ (x7 : Int32) (x8 : Int32) (y0 : Int32) (y1 : Int32) (σ : Hp), J E 9 p l e rm3_addPart s m args below meth c (QV E below args s rm3_addPart.cells rm3_addPart.slots) (f3_addPart_J143 N g x1 x2 x3 x4 x5 x6 x7 x8 y0 y1 σ) 143 [(0, .ref (ea E g)), (1, .int x1), (5, .int x5), (7, .int x7), (8, .int x8)] [.int y0, .int y1, .ref (ea E (g + 6))] σ 0 0 := by
    intro x7 x8 y0 y1 σ
    unfold f3_addPart_J143
    refine j_iast C (P_lt6 hg) (ct_P6 E hg) dX3_addPart_143 ?_
    refine j_aload_n 0 C dX3_addPart_144 rfl rfl ?_
    refine j_get 6 C fl3_34 (P_lt hg) (ct_P E hg _) rfl dX3_addPart_145 ?_
    refine j_iload 4 C dX3_addPart_148 rfl ?_
    refine j_bipush (v := 8) 8 C dX3_addPart_150 (by decide) ?_
    refine j_iadd C dX3_addPart_152 ?_
    refine j_iload 3 C dX3_addPart_153 rfl ?_
    refine j_zne 169 C dX3_addPart_155 (by decide) ?_ ?_
    · refine j_iconst (v := 1) 1 C dX3_addPart_169 (by decide) ?_
      exact j_sub [0, 1, 2, 3] rfl (wJ170 x7 1 (x8 + 8) (st σ (g + 6) y1.toNatClampNeg y0))
    · refine j_aload_n 0 C dX3_addPart_158 rfl rfl ?_
      refine j_get 0 C fl3_12 (P_lt hg) (ct_P E hg _) rfl dX3_addPart_159 ?_
      refine j_iload_n 1 C dX3_addPart_162 rfl rfl ?_
      refine j_callVI [.int x1] (con1_headRows N (edOf g) x1 (isE_ed hg)) C mi1_headRows mv1_headRows lk3_115 (E_lt (isE_ed hg)) (ct_E E (isE_ed hg) _) rfl rfl rfl ⟨Nat.le_of_ble_eq_true rfl, Nat.le_of_ble_eq_true rfl, Nat.le_of_ble_eq_true rfl, Nat.le_of_ble_eq_true rfl, Nat.le_of_ble_eq_true rfl⟩ dX3_addPart_163 (fun r163 σ163 => ?_)
      refine j_goto 170 C dX3_addPart_166 (by decide) ?_
      exact j_sub [0, 1, 2, 3] rfl (wJ170 x7 r163 (x8 + 8) σ163)
  unfold f3_addPart
  refine j_aload_n 0 C dX3_addPart_0 rfl rfl ?_
  refine j_iload_n 1 C dX3_addPart_1 rfl rfl ?_
  refine j_callVI [.int x1] (con3_partCountOf N g x1 hg) C mi3_partCountOf mv3_partCountOf lk3_147 (P_lt hg) (ct_P E hg _) rfl rfl rfl ⟨Nat.le_of_ble_eq_true rfl, Nat.le_of_ble_eq_true rfl, Nat.le_of_ble_eq_true rfl, Nat.le_of_ble_eq_true rfl, Nat.le_of_ble_eq_true rfl⟩ dX3_addPart_2 (fun r2 σ2 => ?_)
  refine j_istore [(7, .int r2), (0, .ref (ea E g)), (1, .int x1), (2, .int x2), (3, .int x3), (4, .int x4), (5, .int x5), (6, .int x6)] C dX3_addPart_5 (by decide) rfl ?_
  refine j_iload_n 2 C dX3_addPart_7 rfl rfl ?_
  refine j_callNI [.int x1] (con5_isStoryIndex N x1) C mi5_isStoryIndex ms5_isStoryIndex lk3_86 rfl rfl ⟨Nat.le_of_ble_eq_true rfl, Nat.le_of_ble_eq_true rfl, Nat.le_of_ble_eq_true rfl, Nat.le_of_ble_eq_true rfl, Nat.le_of_ble_eq_true rfl⟩ dX3_addPart_8 (fun r8 σ8 => ?_)
  refine j_zeq 25 C dX3_addPart_11 (by decide) ?_ ?_
  · exact j_vret C hr hlocks dX3_addPart_25 (Nat.le_of_ble_eq_true rfl) (Nat.le_of_ble_eq_true rfl)
  · refine j_iload 0 C dX3_addPart_14 rfl ?_
    refine j_zlt 25 C dX3_addPart_16 (by decide) ?_ ?_
    · exact j_vret C hr hlocks dX3_addPart_25 (Nat.le_of_ble_eq_true rfl) (Nat.le_of_ble_eq_true rfl)
    · refine j_iload 0 C dX3_addPart_19 rfl ?_
      refine j_iconst (v := 4) 4 C dX3_addPart_21 (by decide) ?_
      refine j_ilt 26 C dX3_addPart_22 (by decide) ?_ ?_
      · refine j_iload_n 2 C dX3_addPart_26 rfl rfl ?_
        refine j_iconst (v := 4) 4 C dX3_addPart_27 (by decide) ?_
        refine j_imul C dX3_addPart_28 ?_
        refine j_iload 0 C dX3_addPart_29 rfl ?_
        refine j_iadd C dX3_addPart_31 ?_
        refine j_bipush (v := 9) 9 C dX3_addPart_32 (by decide) ?_
        refine j_imul C dX3_addPart_34 ?_
        refine j_istore [(8, .int (((x1 * 4) + r2) * 9)), (7, .int r2), (0, .ref (ea E g)), (1, .int x1), (2, .int x2), (3, .int x3), (4, .int x4), (5, .int x5), (6, .int x6)] C dX3_addPart_35 (by decide) rfl ?_
        refine j_aload_n 2 C dX3_addPart_37 rfl rfl ?_
        refine j_get 6 C fl3_34 (P_lt hg) (ct_P E hg _) rfl dX3_addPart_38 ?_
        refine j_iload 0 C dX3_addPart_41 rfl ?_
        refine j_iconst (v := 0) 0 C dX3_addPart_43 (by decide) ?_
        refine j_iadd C dX3_addPart_44 ?_
        refine j_iload_n 4 C dX3_addPart_45 rfl rfl ?_
        refine j_callNI [.int x2] (con5_pageOf N x2) C mi5_pageOf ms5_pageOf lk3_122 rfl rfl ⟨Nat.le_of_ble_eq_true rfl, Nat.le_of_ble_eq_true rfl, Nat.le_of_ble_eq_true rfl, Nat.le_of_ble_eq_true rfl, Nat.le_of_ble_eq_true rfl⟩ dX3_addPart_46 (fun r46 σ46 => ?_)
        refine j_iast C (P_lt6 hg) (ct_P6 E hg) dX3_addPart_49 ?_
        refine j_aload_n 2 C dX3_addPart_50 rfl rfl ?_
        refine j_get 6 C fl3_34 (P_lt hg) (ct_P E hg _) rfl dX3_addPart_51 ?_
        refine j_iload 0 C dX3_addPart_54 rfl ?_
        refine j_iconst (v := 1) 1 C dX3_addPart_56 (by decide) ?_
        refine j_iadd C dX3_addPart_57 ?_
        refine j_iload_n 4 C dX3_addPart_58 rfl rfl ?_
        refine j_callNI [.int x2] (con5_columnOf N x2) C mi5_columnOf ms5_columnOf lk3_150 rfl rfl ⟨Nat.le_of_ble_eq_true rfl, Nat.le_of_ble_eq_true rfl, Nat.le_of_ble_eq_true rfl, Nat.le_of_ble_eq_true rfl, Nat.le_of_ble_eq_true rfl⟩ dX3_addPart_59 (fun r59 σ59 => ?_)
        refine j_iast C (P_lt6 hg) (ct_P6 E hg) dX3_addPart_62 ?_
        refine j_aload_n 2 C dX3_addPart_63 rfl rfl ?_
        refine j_get 6 C fl3_34 (P_lt hg) (ct_P E hg _) rfl dX3_addPart_64 ?_
        refine j_iload 0 C dX3_addPart_67 rfl ?_
        refine j_iconst (v := 2) 2 C dX3_addPart_69 (by decide) ?_
        refine j_iadd C dX3_addPart_70 ?_
        refine j_iload_n 4 C dX3_addPart_71 rfl rfl ?_
        refine j_callNI [.int x2] (con5_rowOf N x2) C mi5_rowOf ms5_rowOf lk3_128 rfl rfl ⟨Nat.le_of_ble_eq_true rfl, Nat.le_of_ble_eq_true rfl, Nat.le_of_ble_eq_true rfl, Nat.le_of_ble_eq_true rfl, Nat.le_of_ble_eq_true rfl⟩ dX3_addPart_72 (fun r72 σ72 => ?_)
        refine j_iast C (P_lt6 hg) (ct_P6 E hg) dX3_addPart_75 ?_
        refine j_aload_n 2 C dX3_addPart_76 rfl rfl ?_
        refine j_get 6 C fl3_34 (P_lt hg) (ct_P E hg _) rfl dX3_addPart_77 ?_
        refine j_iload 0 C dX3_addPart_80 rfl ?_
        refine j_iconst (v := 3) 3 C dX3_addPart_82 (by decide) ?_
        refine j_iadd C dX3_addPart_83 ?_
        refine j_iload_n 5 C dX3_addPart_84 rfl rfl ?_
        refine j_iast C (P_lt6 hg) (ct_P6 E hg) dX3_addPart_85 ?_
        refine j_aload_n 2 C dX3_addPart_86 rfl rfl ?_
        refine j_get 6 C fl3_34 (P_lt hg) (ct_P E hg _) rfl dX3_addPart_87 ?_
        refine j_iload 0 C dX3_addPart_90 rfl ?_
        refine j_iconst (v := 4) 4 C dX3_addPart_92 (by decide) ?_
        refine j_iadd C dX3_addPart_93 ?_
        refine j_iload 6 C dX3_addPart_94 rfl ?_
        refine j_iast C (P_lt6 hg) (ct_P6 E hg) dX3_addPart_96 ?_
        refine j_aload_n 2 C dX3_addPart_97 rfl rfl ?_
        refine j_get 6 C fl3_34 (P_lt hg) (ct_P E hg _) rfl dX3_addPart_98 ?_
        refine j_iload 0 C dX3_addPart_101 rfl ?_
        refine j_iconst (v := 5) 5 C dX3_addPart_103 (by decide) ?_
        refine j_iadd C dX3_addPart_104 ?_
        refine j_iload 7 C dX3_addPart_105 rfl ?_
        refine j_iast C (P_lt6 hg) (ct_P6 E hg) dX3_addPart_107 ?_
        refine j_aload_n 2 C dX3_addPart_108 rfl rfl ?_
        refine j_get 6 C fl3_34 (P_lt hg) (ct_P E hg _) rfl dX3_addPart_109 ?_
        refine j_iload 0 C dX3_addPart_112 rfl ?_
        refine j_bipush (v := 6) 6 C dX3_addPart_114 (by decide) ?_
        refine j_iadd C dX3_addPart_116 ?_
        refine j_aload_n 2 C dX3_addPart_117 rfl rfl ?_
        refine j_get 7 C fl3_37 (P_lt hg) (ct_P E hg _) rfl dX3_addPart_118 ?_
        refine j_iload_n 3 C dX3_addPart_121 rfl rfl ?_
        refine j_iald C (P_lt7 hg) (ct_P7 E hg _) dX3_addPart_122 ?_
        refine j_iast C (P_lt6 hg) (ct_P6 E hg) dX3_addPart_123 ?_
        refine j_aload_n 2 C dX3_addPart_124 rfl rfl ?_
        refine j_get 6 C fl3_34 (P_lt hg) (ct_P E hg _) rfl dX3_addPart_125 ?_
        refine j_iload 0 C dX3_addPart_128 rfl ?_
        refine j_bipush (v := 7) 7 C dX3_addPart_130 (by decide) ?_
        refine j_iadd C dX3_addPart_132 ?_
        refine j_iload 8 C dX3_addPart_133 rfl ?_
        refine j_zeq 142 C dX3_addPart_135 (by decide) ?_ ?_
        · refine j_iconst (v := 0) 0 C dX3_addPart_142 (by decide) ?_
          exact j_sub [2, 3, 7, 1, 0] rfl (wJ143 r2 (((x1 * 4) + r2) * 9) 0 ((((x1 * 4) + r2) * 9) + 7) (st (st (st (st (st σ72 (g + 6) ((((x1 * 4) + r2) * 9) + 2).toNatClampNeg r72) (g + 6) ((((x1 * 4) + r2) * 9) + 3).toNatClampNeg x3) (g + 6) ((((x1 * 4) + r2) * 9) + 4).toNatClampNeg x4) (g + 6) ((((x1 * 4) + r2) * 9) + 5).toNatClampNeg x5) (g + 6) ((((x1 * 4) + r2) * 9) + 6).toNatClampNeg ((st (st (st (st σ72 (g + 6) ((((x1 * 4) + r2) * 9) + 2).toNatClampNeg r72) (g + 6) ((((x1 * 4) + r2) * 9) + 3).toNatClampNeg x3) (g + 6) ((((x1 * 4) + r2) * 9) + 4).toNatClampNeg x4) (g + 6) ((((x1 * 4) + r2) * 9) + 5).toNatClampNeg x5) (g + 7) x1.toNatClampNeg)))
        · refine j_iconst (v := 1) 1 C dX3_addPart_138 (by decide) ?_
          refine j_goto 143 C dX3_addPart_139 (by decide) ?_
          exact j_sub [2, 3, 7, 1, 0] rfl (wJ143 r2 (((x1 * 4) + r2) * 9) 1 ((((x1 * 4) + r2) * 9) + 7) (st (st (st (st (st σ72 (g + 6) ((((x1 * 4) + r2) * 9) + 2).toNatClampNeg r72) (g + 6) ((((x1 * 4) + r2) * 9) + 3).toNatClampNeg x3) (g + 6) ((((x1 * 4) + r2) * 9) + 4).toNatClampNeg x4) (g + 6) ((((x1 * 4) + r2) * 9) + 5).toNatClampNeg x5) (g + 6) ((((x1 * 4) + r2) * 9) + 6).toNatClampNeg ((st (st (st (st σ72 (g + 6) ((((x1 * 4) + r2) * 9) + 2).toNatClampNeg r72) (g + 6) ((((x1 * 4) + r2) * 9) + 3).toNatClampNeg x3) (g + 6) ((((x1 * 4) + r2) * 9) + 4).toNatClampNeg x4) (g + 6) ((((x1 * 4) + r2) * 9) + 5).toNatClampNeg x5) (g + 7) x1.toNatClampNeg)))
      · exact j_vret C hr hlocks dX3_addPart_25 (Nat.le_of_ble_eq_true rfl) (Nat.le_of_ble_eq_true rfl)
set_option maxHeartbeats 4000000 in
set_option maxRecDepth 100000 in
theorem con3_placeStart (N : Nat) (g : Nat) (x1 : Int32) (x2 : Int32) (x3 : Int32) (hg : isP g) : ConI yX3_placeStart cX3_placeStart 10 .int rm3_placeStart (fun E => [.ref (ea E g), .int x1, .int x2, .int x3]) (f3_placeStart N g x1 x2 x3) := by
  refine conI_of (L := fun E => [(0, .ref (ea E g)), (1, .int x1), (2, .int x2), (3, .int x3)]) (by decide) (fun _ => Nat.le_of_ble_eq_true rfl) (fun _ => rfl) ?_
  intro l E σ p e s m args below meth c C hr hlocks
  have wJ111 : ∀ (x4 : Int32) (x5 : Int32) (x7 : Int32) (x8 : Int32) (y0 : Int32) (σ : Hp), J E 10 p l e rm3_placeStart s m args below meth c (QI E below args s rm3_placeStart.cells rm3_placeStart.slots) (f3_placeStart_J111 N g x1 x2 x3 x4 x5 x7 x8 y0 σ) 111 [(0, .ref (ea E g)), (1, .int x1), (2, .int x2), (3, .int x3), (4, .int x4), (5, .int x5), (7, .int x7), (8, .int x8)] [.int y0] σ 0 0 := by
    intro x4 x5 x7 x8 y0 σ
    unfold f3_placeStart_J111
    refine j_istore [(9, .int y0), (0, .ref (ea E g)), (1, .int x1), (2, .int x2), (3, .int x3), (4, .int x4), (5, .int x5), (7, .int x7), (8, .int x8)] C dX3_placeStart_111 (by decide) rfl ?_
    refine j_aload_n 1 C dX3_placeStart_113 rfl rfl ?_
    refine j_iload_n 2 C dX3_placeStart_114 rfl rfl ?_
    refine j_iload_n 3 C dX3_placeStart_115 rfl rfl ?_
    refine j_iload 5 C dX3_placeStart_116 rfl ?_
    refine j_iload 6 C dX3_placeStart_118 rfl ?_
    refine j_iload 7 C dX3_placeStart_120 rfl ?_
    refine j_iadd C dX3_placeStart_122 ?_
    refine j_iload 5 C dX3_placeStart_123 rfl ?_
    refine j_iload 0 C dX3_placeStart_125 rfl ?_
    refine j_imul C dX3_placeStart_127 ?_
    refine j_iload 8 C dX3_placeStart_128 rfl ?_
    refine j_callVV [.int x1, .int x2, .int x4, .int (x5 + x7), .int (x4 * y0), .int x8] (con3_addPart N g x1 x2 x4 (x5 + x7) (x4 * y0) x8 hg) C mi3_addPart mv3_addPart lk3_140 (P_lt hg) (ct_P E hg _) rfl rfl rfl ⟨Nat.le_of_ble_eq_true rfl, Nat.le_of_ble_eq_true rfl, Nat.le_of_ble_eq_true rfl, Nat.le_of_ble_eq_true rfl, Nat.le_of_ble_eq_true rfl⟩ dX3_placeStart_130 (fun σ130 => ?_)
    refine j_iload_n 4 C dX3_placeStart_133 rfl rfl ?_
    exact j_iret C hr hlocks rfl dX3_placeStart_134 (Nat.le_of_ble_eq_true rfl) (Nat.le_of_ble_eq_true rfl)
  have wJ95 : ∀ (x4 : Int32) (x5 : Int32) (x7 : Int32) (y0 : Int32) (σ : Hp), J E 10 p l e rm3_placeStart s m args below meth c (QI E below args s rm3_placeStart.cells rm3_placeStart.slots) (f3_placeStart_J95 N g x1 x2 x3 x4 x5 x7 y0 σ) 95 [(0, .ref (ea E g)), (1, .int x1), (2, .int x2), (3, .int x3), (4, .int x4), (5, .int x5), (7, .int x7)] [.int y0] σ 0 0 := by
    intro x4 x5 x7 y0 σ
    unfold f3_placeStart_J95
    refine j_istore [(8, .int y0), (0, .ref (ea E g)), (1, .int x1), (2, .int x2), (3, .int x3), (4, .int x4), (5, .int x5), (7, .int x7)] C dX3_placeStart_95 (by decide) rfl ?_
    refine j_iload 0 C dX3_placeStart_97 rfl ?_
    refine j_zeq 109 C dX3_placeStart_99 (by decide) ?_ ?_
    · refine j_iload 7 C dX3_placeStart_109 rfl ?_
      exact j_sub [1, 2, 3, 4, 5, 6, 7, 0] rfl (wJ111 x4 x5 x7 y0 x7 σ)
    · refine j_iload 7 C dX3_placeStart_102 rfl ?_
      refine j_iconst (v := 1) 1 C dX3_placeStart_104 (by decide) ?_
      refine j_isub C dX3_placeStart_105 ?_
      refine j_goto 111 C dX3_placeStart_106 (by decide) ?_
      exact j_sub [1, 2, 3, 4, 5, 6, 7, 0] rfl (wJ111 x4 x5 x7 y0 (x7 - 1) σ)
  unfold f3_placeStart
  refine j_aload_n 0 C dX3_placeStart_0 rfl rfl ?_
  refine j_get 0 C fl3_12 (P_lt hg) (ct_P E hg _) rfl dX3_placeStart_1 ?_
  refine j_iload_n 1 C dX3_placeStart_4 rfl rfl ?_
  refine j_iconst (v := 1) 1 C dX3_placeStart_5 (by decide) ?_
  refine j_callVI [.int x1, .int 1] (con1_storyNumber N (edOf g) x1 1 (isE_ed hg)) C mi1_storyNumber mv1_storyNumber lk3_96 (E_lt (isE_ed hg)) (ct_E E (isE_ed hg) _) rfl rfl rfl ⟨Nat.le_of_ble_eq_true rfl, Nat.le_of_ble_eq_true rfl, Nat.le_of_ble_eq_true rfl, Nat.le_of_ble_eq_true rfl, Nat.le_of_ble_eq_true rfl⟩ dX3_placeStart_6 (fun r6 σ6 => ?_)
  refine j_istore [(4, .int r6), (0, .ref (ea E g)), (1, .int x1), (2, .int x2), (3, .int x3)] C dX3_placeStart_9 (by decide) rfl ?_
  refine j_aload_n 1 C dX3_placeStart_11 rfl rfl ?_
  refine j_get 0 C fl3_12 (P_lt hg) (ct_P E hg _) rfl dX3_placeStart_12 ?_
  refine j_iload_n 2 C dX3_placeStart_15 rfl rfl ?_
  refine j_callVI [.int x1] (con1_headRows N (edOf g) x1 (isE_ed hg)) C mi1_headRows mv1_headRows lk3_115 (E_lt (isE_ed hg)) (ct_E E (isE_ed hg) _) rfl rfl rfl ⟨Nat.le_of_ble_eq_true rfl, Nat.le_of_ble_eq_true rfl, Nat.le_of_ble_eq_true rfl, Nat.le_of_ble_eq_true rfl, Nat.le_of_ble_eq_true rfl⟩ dX3_placeStart_16 (fun r16 σ16 => ?_)
  refine j_istore [(5, .int r16), (4, .int r6), (0, .ref (ea E g)), (1, .int x1), (2, .int x2), (3, .int x3)] C dX3_placeStart_19 (by decide) rfl ?_
  refine j_aload_n 2 C dX3_placeStart_21 rfl rfl ?_
  refine j_get 0 C fl3_12 (P_lt hg) (ct_P E hg _) rfl dX3_placeStart_22 ?_
  refine j_iload_n 3 C dX3_placeStart_25 rfl rfl ?_
  refine j_iconst (v := 3) 3 C dX3_placeStart_26 (by decide) ?_
  refine j_callVI [.int x1, .int 3] (con1_storyNumber N (edOf g) x1 3 (isE_ed hg)) C mi1_storyNumber mv1_storyNumber lk3_96 (E_lt (isE_ed hg)) (ct_E E (isE_ed hg) _) rfl rfl rfl ⟨Nat.le_of_ble_eq_true rfl, Nat.le_of_ble_eq_true rfl, Nat.le_of_ble_eq_true rfl, Nat.le_of_ble_eq_true rfl, Nat.le_of_ble_eq_true rfl⟩ dX3_placeStart_27 (fun r27 σ27 => ?_)
  refine j_istore [(6, .int r27), (5, .int r16), (4, .int r6), (0, .ref (ea E g)), (1, .int x1), (2, .int x2), (3, .int x3)] C dX3_placeStart_30 (by decide) rfl ?_
  refine j_aload_n 3 C dX3_placeStart_32 rfl rfl ?_
  refine j_iload_n 5 C dX3_placeStart_33 rfl rfl ?_
  refine j_iload 2 C dX3_placeStart_34 rfl ?_
  refine j_callVI [.int x2, .int r6] (con3_freeRows N g x2 r6 hg) C mi3_freeRows mv3_freeRows lk3_125 (P_lt hg) (ct_P E hg _) rfl rfl rfl ⟨Nat.le_of_ble_eq_true rfl, Nat.le_of_ble_eq_true rfl, Nat.le_of_ble_eq_true rfl, Nat.le_of_ble_eq_true rfl, Nat.le_of_ble_eq_true rfl⟩ dX3_placeStart_36 (fun r36 σ36 => ?_)
  refine j_iload 1 C dX3_placeStart_39 rfl ?_
  refine j_isub C dX3_placeStart_41 ?_
  refine j_istore [(7, .int (r36 - r16)), (6, .int r27), (5, .int r16), (4, .int r6), (0, .ref (ea E g)), (1, .int x1), (2, .int x2), (3, .int x3)] C dX3_placeStart_42 (by decide) rfl ?_
  refine j_aload_n 4 C dX3_placeStart_44 rfl rfl ?_
  refine j_iload_n 5 C dX3_placeStart_45 rfl rfl ?_
  refine j_iload 0 C dX3_placeStart_46 rfl ?_
  refine j_callVV [.int x1, .int (r36 - r16)] (con3_putStartDepth N g x1 (r36 - r16) hg) C mi3_putStartDepth mv3_putStartDepth lk3_134 (P_lt hg) (ct_P E hg _) rfl rfl rfl ⟨Nat.le_of_ble_eq_true rfl, Nat.le_of_ble_eq_true rfl, Nat.le_of_ble_eq_true rfl, Nat.le_of_ble_eq_true rfl, Nat.le_of_ble_eq_true rfl⟩ dX3_placeStart_48 (fun σ48 => ?_)
  refine j_iload 1 C dX3_placeStart_51 rfl ?_
  refine j_iload 3 C dX3_placeStart_53 rfl ?_
  refine j_iload 0 C dX3_placeStart_55 rfl ?_
  refine j_imul C dX3_placeStart_57 ?_
  refine j_igt 85 C dX3_placeStart_58 (by decide) ?_ ?_
  · refine j_iload_n 7 C dX3_placeStart_85 rfl rfl ?_
    refine j_iconst (v := (-1)) (-1) C dX3_placeStart_86 (by decide) ?_
    refine j_ieq 94 C dX3_placeStart_87 (by decide) ?_ ?_
    · refine j_iconst (v := 0) 0 C dX3_placeStart_94 (by decide) ?_
      exact j_sub [4, 5, 6, 7, 3, 2, 0] rfl (wJ95 r6 r16 (r36 - r16) 0 σ48)
    · refine j_iconst (v := 1) 1 C dX3_placeStart_90 (by decide) ?_
      refine j_goto 95 C dX3_placeStart_91 (by decide) ?_
      exact j_sub [4, 5, 6, 7, 3, 2, 0] rfl (wJ95 r6 r16 (r36 - r16) 1 σ48)
  · refine j_aload_n 4 C dX3_placeStart_61 rfl rfl ?_
    refine j_iload_n 5 C dX3_placeStart_62 rfl rfl ?_
    refine j_iload_n 6 C dX3_placeStart_63 rfl rfl ?_
    refine j_iload 3 C dX3_placeStart_64 rfl ?_
    refine j_iload 2 C dX3_placeStart_66 rfl ?_
    refine j_iload 1 C dX3_placeStart_68 rfl ?_
    refine j_iload 3 C dX3_placeStart_70 rfl ?_
    refine j_iconst (v := 0) 0 C dX3_placeStart_72 (by decide) ?_
    refine j_callSI [.int r27, .int r6, .int 0] (con3_linesOfColumn N r27 r6 0) C mi3_linesOfColumn ms3_linesOfColumn lk3_137 rfl rfl ⟨Nat.le_of_ble_eq_true rfl, Nat.le_of_ble_eq_true rfl, Nat.le_of_ble_eq_true rfl, Nat.le_of_ble_eq_true rfl, Nat.le_of_ble_eq_true rfl⟩ dX3_placeStart_73 (fun r73 σ73 => ?_)
    refine j_iadd C dX3_placeStart_76 ?_
    refine j_iload 1 C dX3_placeStart_77 rfl ?_
    refine j_iconst (v := 0) 0 C dX3_placeStart_79 (by decide) ?_
    refine j_callVV [.int x1, .int x2, .int r6, .int (r16 + r73), .int r27, .int 0] (con3_addPart N g x1 x2 r6 (r16 + r73) r27 0 hg) C mi3_addPart mv3_addPart lk3_140 (P_lt hg) (ct_P E hg _) rfl rfl rfl ⟨Nat.le_of_ble_eq_true rfl, Nat.le_of_ble_eq_true rfl, Nat.le_of_ble_eq_true rfl, Nat.le_of_ble_eq_true rfl, Nat.le_of_ble_eq_true rfl⟩ dX3_placeStart_80 (fun σ80 => ?_)
    refine j_iconst (v := (-1)) (-1) C dX3_placeStart_83 (by decide) ?_
    exact j_iret C hr hlocks rfl dX3_placeStart_84 (Nat.le_of_ble_eq_true rfl) (Nat.le_of_ble_eq_true rfl)
set_option maxHeartbeats 4000000 in
set_option maxRecDepth 100000 in
theorem con3_linesOnPages (N : Nat) (g : Nat) (x1 : Int32) (hg : isP g) : ConI yX3_linesOnPages cX3_linesOnPages 2 .int rm3_linesOnPages (fun E => [.ref (ea E g), .int x1]) (f3_linesOnPages N g x1) := by
  refine conI_of (L := fun E => [(0, .ref (ea E g)), (1, .int x1)]) (by decide) (fun _ => Nat.le_of_ble_eq_true rfl) (fun _ => rfl) ?_
  intro l E σ p e s m args below meth c C hr hlocks
  unfold f3_linesOnPages
  refine j_iload_n 1 C dX3_linesOnPages_0 rfl rfl ?_
  refine j_callNI [.int x1] (con5_isStoryIndex N x1) C mi5_isStoryIndex ms5_isStoryIndex lk3_86 rfl rfl ⟨Nat.le_of_ble_eq_true rfl, Nat.le_of_ble_eq_true rfl, Nat.le_of_ble_eq_true rfl, Nat.le_of_ble_eq_true rfl, Nat.le_of_ble_eq_true rfl⟩ dX3_linesOnPages_1 (fun r1 σ1 => ?_)
  refine j_zeq 16 C dX3_linesOnPages_4 (by decide) ?_ ?_
  · refine j_iconst (v := 0) 0 C dX3_linesOnPages_16 (by decide) ?_
    exact j_iret C hr hlocks rfl dX3_linesOnPages_17 (Nat.le_of_ble_eq_true rfl) (Nat.le_of_ble_eq_true rfl)
  · refine j_aload_n 0 C dX3_linesOnPages_7 rfl rfl ?_
    refine j_get 7 C fl3_37 (P_lt hg) (ct_P E hg _) rfl dX3_linesOnPages_8 ?_
    refine j_iload_n 1 C dX3_linesOnPages_11 rfl rfl ?_
    refine j_iald C (P_lt7 hg) (ct_P7 E hg _) dX3_linesOnPages_12 ?_
    refine j_goto 17 C dX3_linesOnPages_13 (by decide) ?_
    exact j_iret C hr hlocks rfl dX3_linesOnPages_17 (Nat.le_of_ble_eq_true rfl) (Nat.le_of_ble_eq_true rfl)
set_option maxHeartbeats 4000000 in
set_option maxRecDepth 100000 in
theorem con3_linesCut (N : Nat) (g : Nat) (x1 : Int32) (hg : isP g) : ConI yX3_linesCut cX3_linesCut 2 .int rm3_linesCut (fun E => [.ref (ea E g), .int x1]) (f3_linesCut N g x1) := by
  refine conI_of (L := fun E => [(0, .ref (ea E g)), (1, .int x1)]) (by decide) (fun _ => Nat.le_of_ble_eq_true rfl) (fun _ => rfl) ?_
  intro l E σ p e s m args below meth c C hr hlocks
  unfold f3_linesCut
  refine j_aload_n 0 C dX3_linesCut_0 rfl rfl ?_
  refine j_get 0 C fl3_12 (P_lt hg) (ct_P E hg _) rfl dX3_linesCut_1 ?_
  refine j_iload_n 1 C dX3_linesCut_4 rfl rfl ?_
  refine j_iconst (v := 3) 3 C dX3_linesCut_5 (by decide) ?_
  refine j_callVI [.int x1, .int 3] (con1_storyNumber N (edOf g) x1 3 (isE_ed hg)) C mi1_storyNumber mv1_storyNumber lk3_96 (E_lt (isE_ed hg)) (ct_E E (isE_ed hg) _) rfl rfl rfl ⟨Nat.le_of_ble_eq_true rfl, Nat.le_of_ble_eq_true rfl, Nat.le_of_ble_eq_true rfl, Nat.le_of_ble_eq_true rfl, Nat.le_of_ble_eq_true rfl⟩ dX3_linesCut_6 (fun r6 σ6 => ?_)
  refine j_aload_n 0 C dX3_linesCut_9 rfl rfl ?_
  refine j_iload_n 1 C dX3_linesCut_10 rfl rfl ?_
  refine j_callVI [.int x1] (con3_linesOnPages N g x1 hg) C mi3_linesOnPages mv3_linesOnPages lk3_177 (P_lt hg) (ct_P E hg _) rfl rfl rfl ⟨Nat.le_of_ble_eq_true rfl, Nat.le_of_ble_eq_true rfl, Nat.le_of_ble_eq_true rfl, Nat.le_of_ble_eq_true rfl, Nat.le_of_ble_eq_true rfl⟩ dX3_linesCut_11 (fun r11 σ11 => ?_)
  refine j_isub C dX3_linesCut_14 ?_
  exact j_iret C hr hlocks rfl dX3_linesCut_15 (Nat.le_of_ble_eq_true rfl) (Nat.le_of_ble_eq_true rfl)
set_option maxHeartbeats 4000000 in
set_option maxRecDepth 100000 in
theorem con3_placeContinuation (N : Nat) (g : Nat) (x1 : Int32) (x2 : Int32) (x3 : Int32) (hg : isP g) : ConI yX3_placeContinuation cX3_placeContinuation 7 .int rm3_placeContinuation (fun E => [.ref (ea E g), .int x1, .int x2, .int x3]) (f3_placeContinuation N g x1 x2 x3) := by
  refine conI_of (L := fun E => [(0, .ref (ea E g)), (1, .int x1), (2, .int x2), (3, .int x3)]) (by decide) (fun _ => Nat.le_of_ble_eq_true rfl) (fun _ => rfl) ?_
  intro l E σ p e s m args below meth c C hr hlocks
  have wJ74 : ∀ (x6 : Int32) (y0 : Int32) (y1 : Int32) (y2 : Int32) (y3 : Int32) (y4 : Int32) (σ : Hp), J E 7 p l e rm3_placeContinuation s m args below meth c (QI E below args s rm3_placeContinuation.cells rm3_placeContinuation.slots) (f3_placeContinuation_J74 N g x1 x2 x3 x6 y0 y1 y2 y3 y4 σ) 74 [(3, .int x3), (6, .int x6)] [.int y0, .int y1, .int y2, .int y3, .int y4, .ref (ea E g)] σ 0 0 := by
    intro x6 y0 y1 y2 y3 y4 σ
    unfold f3_placeContinuation_J74
    refine j_iload 1 C dX3_placeContinuation_74 rfl ?_
    refine j_callVV [.int y4, .int y3, .int y2, .int y1, .int y0, .int x6] (con3_addPart N g y4 y3 y2 y1 y0 x6 hg) C mi3_addPart mv3_addPart lk3_140 (P_lt hg) (ct_P E hg _) rfl rfl rfl ⟨Nat.le_of_ble_eq_true rfl, Nat.le_of_ble_eq_true rfl, Nat.le_of_ble_eq_true rfl, Nat.le_of_ble_eq_true rfl, Nat.le_of_ble_eq_true rfl⟩ dX3_placeContinuation_76 (fun σ76 => ?_)
    refine j_iload_n 0 C dX3_placeContinuation_79 rfl rfl ?_
    exact j_iret C hr hlocks rfl dX3_placeContinuation_80 (Nat.le_of_ble_eq_true rfl) (Nat.le_of_ble_eq_true rfl)
  have wJ50 : ∀ (x4 : Int32) (y0 : Int32) (σ : Hp), J E 7 p l e rm3_placeContinuation s m args below meth c (QI E below args s rm3_placeContinuation.cells rm3_placeContinuation.slots) (f3_placeContinuation_J50 N g x1 x2 x3 x4 y0 σ) 50 [(0, .ref (ea E g)), (1, .int x1), (2, .int x2), (3, .int x3), (4, .int x4)] [.int y0] σ 0 0 := by
    intro x4 y0 σ
    unfold f3_placeContinuation_J50
    refine j_istore [(6, .int y0), (0, .ref (ea E g)), (1, .int x1), (2, .int x2), (3, .int x3), (4, .int x4)] C dX3_placeContinuation_50 (by decide) rfl ?_
    refine j_aload_n 1 C dX3_placeContinuation_52 rfl rfl ?_
    refine j_iload_n 2 C dX3_placeContinuation_53 rfl rfl ?_
    refine j_iload_n 3 C dX3_placeContinuation_54 rfl rfl ?_
    refine j_iconst (v := 1) 1 C dX3_placeContinuation_55 (by decide) ?_
    refine j_iload 5 C dX3_placeContinuation_56 rfl ?_
    refine j_iload 0 C dX3_placeContinuation_58 rfl ?_
    refine j_zeq 70 C dX3_placeContinuation_60 (by decide) ?_ ?_
    · refine j_iload 5 C dX3_placeContinuation_70 rfl ?_
      refine j_iconst (v := 1) 1 C dX3_placeContinuation_72 (by decide) ?_
      refine j_isub C dX3_placeContinuation_73 ?_
      exact j_sub [4, 0] rfl (wJ74 y0 (x4 - 1) x4 1 x2 x1 σ)
    · refine j_iload 5 C dX3_placeContinuation_63 rfl ?_
      refine j_iconst (v := 2) 2 C dX3_placeContinuation_65 (by decide) ?_
      refine j_isub C dX3_placeContinuation_66 ?_
      refine j_goto 74 C dX3_placeContinuation_67 (by decide) ?_
      exact j_sub [4, 0] rfl (wJ74 y0 (x4 - 2) x4 1 x2 x1 σ)
  unfold f3_placeContinuation
  refine j_aload_n 0 C dX3_placeContinuation_0 rfl rfl ?_
  refine j_iload_n 2 C dX3_placeContinuation_1 rfl rfl ?_
  refine j_iconst (v := 1) 1 C dX3_placeContinuation_2 (by decide) ?_
  refine j_callVI [.int x2, .int 1] (con3_freeRows N g x2 1 hg) C mi3_freeRows mv3_freeRows lk3_125 (P_lt hg) (ct_P E hg _) rfl rfl rfl ⟨Nat.le_of_ble_eq_true rfl, Nat.le_of_ble_eq_true rfl, Nat.le_of_ble_eq_true rfl, Nat.le_of_ble_eq_true rfl, Nat.le_of_ble_eq_true rfl⟩ dX3_placeContinuation_3 (fun r3 σ3 => ?_)
  refine j_istore [(4, .int r3), (0, .ref (ea E g)), (1, .int x1), (2, .int x2), (3, .int x3)] C dX3_placeContinuation_6 (by decide) rfl ?_
  refine j_aload_n 1 C dX3_placeContinuation_8 rfl rfl ?_
  refine j_iload_n 2 C dX3_placeContinuation_9 rfl rfl ?_
  refine j_callVI [.int x1] (con3_linesCut N g x1 hg) C mi3_linesCut mv3_linesCut lk3_144 (P_lt hg) (ct_P E hg _) rfl rfl rfl ⟨Nat.le_of_ble_eq_true rfl, Nat.le_of_ble_eq_true rfl, Nat.le_of_ble_eq_true rfl, Nat.le_of_ble_eq_true rfl, Nat.le_of_ble_eq_true rfl⟩ dX3_placeContinuation_10 (fun r10 σ10 => ?_)
  refine j_istore [(5, .int r10), (4, .int r3), (0, .ref (ea E g)), (1, .int x1), (2, .int x2), (3, .int x3)] C dX3_placeContinuation_13 (by decide) rfl ?_
  refine j_iload 0 C dX3_placeContinuation_15 rfl ?_
  refine j_iload 1 C dX3_placeContinuation_17 rfl ?_
  refine j_iconst (v := 1) 1 C dX3_placeContinuation_19 (by decide) ?_
  refine j_isub C dX3_placeContinuation_20 ?_
  refine j_igt 40 C dX3_placeContinuation_21 (by decide) ?_ ?_
  · refine j_iload_n 5 C dX3_placeContinuation_40 rfl rfl ?_
    refine j_iconst (v := (-1)) (-1) C dX3_placeContinuation_41 (by decide) ?_
    refine j_ieq 49 C dX3_placeContinuation_42 (by decide) ?_ ?_
    · refine j_iconst (v := 0) 0 C dX3_placeContinuation_49 (by decide) ?_
      exact j_sub [2, 3, 4, 5, 1] rfl (wJ50 r3 0 σ10)
    · refine j_iconst (v := 1) 1 C dX3_placeContinuation_45 (by decide) ?_
      refine j_goto 50 C dX3_placeContinuation_46 (by decide) ?_
      exact j_sub [2, 3, 4, 5, 1] rfl (wJ50 r3 1 σ10)
  · refine j_aload_n 2 C dX3_placeContinuation_24 rfl rfl ?_
    refine j_iload_n 3 C dX3_placeContinuation_25 rfl rfl ?_
    refine j_iload_n 4 C dX3_placeContinuation_26 rfl rfl ?_
    refine j_iconst (v := 1) 1 C dX3_placeContinuation_27 (by decide) ?_
    refine j_iconst (v := 1) 1 C dX3_placeContinuation_28 (by decide) ?_
    refine j_iload 0 C dX3_placeContinuation_29 rfl ?_
    refine j_iadd C dX3_placeContinuation_31 ?_
    refine j_iload 0 C dX3_placeContinuation_32 rfl ?_
    refine j_iconst (v := 0) 0 C dX3_placeContinuation_34 (by decide) ?_
    refine j_callVV [.int x1, .int x2, .int 1, .int (1 + r10), .int r10, .int 0] (con3_addPart N g x1 x2 1 (1 + r10) r10 0 hg) C mi3_addPart mv3_addPart lk3_140 (P_lt hg) (ct_P E hg _) rfl rfl rfl ⟨Nat.le_of_ble_eq_true rfl, Nat.le_of_ble_eq_true rfl, Nat.le_of_ble_eq_true rfl, Nat.le_of_ble_eq_true rfl, Nat.le_of_ble_eq_true rfl⟩ dX3_placeContinuation_35 (fun σ35 => ?_)
    refine j_iconst (v := (-1)) (-1) C dX3_placeContinuation_38 (by decide) ?_
    exact j_iret C hr hlocks rfl dX3_placeContinuation_39 (Nat.le_of_ble_eq_true rfl) (Nat.le_of_ble_eq_true rfl)
set_option maxHeartbeats 4000000 in
set_option maxRecDepth 100000 in
theorem con3_partNumber (N : Nat) (g : Nat) (x1 : Int32) (x2 : Int32) (x3 : Int32) (hg : isP g) : ConI yX3_partNumber cX3_partNumber 4 .int rm3_partNumber (fun E => [.ref (ea E g), .int x1, .int x2, .int x3]) (f3_partNumber N g x1 x2 x3) := by
  refine conI_of (L := fun E => [(0, .ref (ea E g)), (1, .int x1), (2, .int x2), (3, .int x3)]) (by decide) (fun _ => Nat.le_of_ble_eq_true rfl) (fun _ => rfl) ?_
  intro l E σ p e s m args below meth c C hr hlocks
  unfold f3_partNumber
  refine j_iload_n 1 C dX3_partNumber_0 rfl rfl ?_
  refine j_zlt 29 C dX3_partNumber_1 (by decide) ?_ ?_
  · refine j_iconst (v := 0) 0 C dX3_partNumber_29 (by decide) ?_
    exact j_iret C hr hlocks rfl dX3_partNumber_30 (Nat.le_of_ble_eq_true rfl) (Nat.le_of_ble_eq_true rfl)
  · refine j_iload_n 1 C dX3_partNumber_4 rfl rfl ?_
    refine j_bipush (v := 12) 12 C dX3_partNumber_5 (by decide) ?_
    refine j_ige 29 C dX3_partNumber_7 (by decide) ?_ ?_
    · refine j_iconst (v := 0) 0 C dX3_partNumber_29 (by decide) ?_
      exact j_iret C hr hlocks rfl dX3_partNumber_30 (Nat.le_of_ble_eq_true rfl) (Nat.le_of_ble_eq_true rfl)
    · refine j_iload_n 2 C dX3_partNumber_10 rfl rfl ?_
      refine j_zlt 29 C dX3_partNumber_11 (by decide) ?_ ?_
      · refine j_iconst (v := 0) 0 C dX3_partNumber_29 (by decide) ?_
        exact j_iret C hr hlocks rfl dX3_partNumber_30 (Nat.le_of_ble_eq_true rfl) (Nat.le_of_ble_eq_true rfl)
      · refine j_iload_n 2 C dX3_partNumber_14 rfl rfl ?_
        refine j_iconst (v := 4) 4 C dX3_partNumber_15 (by decide) ?_
        refine j_ige 29 C dX3_partNumber_16 (by decide) ?_ ?_
        · refine j_iconst (v := 0) 0 C dX3_partNumber_29 (by decide) ?_
          exact j_iret C hr hlocks rfl dX3_partNumber_30 (Nat.le_of_ble_eq_true rfl) (Nat.le_of_ble_eq_true rfl)
        · refine j_iload_n 3 C dX3_partNumber_19 rfl rfl ?_
          refine j_zlt 29 C dX3_partNumber_20 (by decide) ?_ ?_
          · refine j_iconst (v := 0) 0 C dX3_partNumber_29 (by decide) ?_
            exact j_iret C hr hlocks rfl dX3_partNumber_30 (Nat.le_of_ble_eq_true rfl) (Nat.le_of_ble_eq_true rfl)
          · refine j_iload_n 3 C dX3_partNumber_23 rfl rfl ?_
            refine j_bipush (v := 9) 9 C dX3_partNumber_24 (by decide) ?_
            refine j_ilt 31 C dX3_partNumber_26 (by decide) ?_ ?_
            · refine j_aload_n 0 C dX3_partNumber_31 rfl rfl ?_
              refine j_get 6 C fl3_34 (P_lt hg) (ct_P E hg _) rfl dX3_partNumber_32 ?_
              refine j_iload_n 1 C dX3_partNumber_35 rfl rfl ?_
              refine j_iconst (v := 4) 4 C dX3_partNumber_36 (by decide) ?_
              refine j_imul C dX3_partNumber_37 ?_
              refine j_iload_n 2 C dX3_partNumber_38 rfl rfl ?_
              refine j_iadd C dX3_partNumber_39 ?_
              refine j_bipush (v := 9) 9 C dX3_partNumber_40 (by decide) ?_
              refine j_imul C dX3_partNumber_42 ?_
              refine j_iload_n 3 C dX3_partNumber_43 rfl rfl ?_
              refine j_iadd C dX3_partNumber_44 ?_
              refine j_iald C (P_lt6 hg) (ct_P6 E hg _) dX3_partNumber_45 ?_
              exact j_iret C hr hlocks rfl dX3_partNumber_46 (Nat.le_of_ble_eq_true rfl) (Nat.le_of_ble_eq_true rfl)
            · refine j_iconst (v := 0) 0 C dX3_partNumber_29 (by decide) ?_
              exact j_iret C hr hlocks rfl dX3_partNumber_30 (Nat.le_of_ble_eq_true rfl) (Nat.le_of_ble_eq_true rfl)
set_option maxHeartbeats 4000000 in
set_option maxRecDepth 100000 in
theorem con3_firstCell (N : Nat) (g : Nat) (x1 : Int32) (x2 : Int32) (hg : isP g) : ConI yX3_firstCell cX3_firstCell 3 .int rm3_firstCell (fun E => [.ref (ea E g), .int x1, .int x2]) (f3_firstCell N g x1 x2) := by
  refine conI_of (L := fun E => [(0, .ref (ea E g)), (1, .int x1), (2, .int x2)]) (by decide) (fun _ => Nat.le_of_ble_eq_true rfl) (fun _ => rfl) ?_
  intro l E σ p e s m args below meth c C hr hlocks
  unfold f3_firstCell
  refine j_aload_n 0 C dX3_firstCell_0 rfl rfl ?_
  refine j_iload_n 1 C dX3_firstCell_1 rfl rfl ?_
  refine j_iload_n 2 C dX3_firstCell_2 rfl rfl ?_
  refine j_iconst (v := 0) 0 C dX3_firstCell_3 (by decide) ?_
  refine j_callVI [.int x1, .int x2, .int 0] (con3_partNumber N g x1 x2 0 hg) C mi3_partNumber mv3_partNumber lk3_153 (P_lt hg) (ct_P E hg _) rfl rfl rfl ⟨Nat.le_of_ble_eq_true rfl, Nat.le_of_ble_eq_true rfl, Nat.le_of_ble_eq_true rfl, Nat.le_of_ble_eq_true rfl, Nat.le_of_ble_eq_true rfl⟩ dX3_firstCell_4 (fun r4 σ4 => ?_)
  refine j_aload_n 0 C dX3_firstCell_7 rfl rfl ?_
  refine j_iload_n 1 C dX3_firstCell_8 rfl rfl ?_
  refine j_iload_n 2 C dX3_firstCell_9 rfl rfl ?_
  refine j_iconst (v := 1) 1 C dX3_firstCell_10 (by decide) ?_
  refine j_callVI [.int x1, .int x2, .int 1] (con3_partNumber N g x1 x2 1 hg) C mi3_partNumber mv3_partNumber lk3_153 (P_lt hg) (ct_P E hg _) rfl rfl rfl ⟨Nat.le_of_ble_eq_true rfl, Nat.le_of_ble_eq_true rfl, Nat.le_of_ble_eq_true rfl, Nat.le_of_ble_eq_true rfl, Nat.le_of_ble_eq_true rfl⟩ dX3_firstCell_11 (fun r11 σ11 => ?_)
  refine j_aload_n 0 C dX3_firstCell_14 rfl rfl ?_
  refine j_iload_n 1 C dX3_firstCell_15 rfl rfl ?_
  refine j_iload_n 2 C dX3_firstCell_16 rfl rfl ?_
  refine j_iconst (v := 2) 2 C dX3_firstCell_17 (by decide) ?_
  refine j_callVI [.int x1, .int x2, .int 2] (con3_partNumber N g x1 x2 2 hg) C mi3_partNumber mv3_partNumber lk3_153 (P_lt hg) (ct_P E hg _) rfl rfl rfl ⟨Nat.le_of_ble_eq_true rfl, Nat.le_of_ble_eq_true rfl, Nat.le_of_ble_eq_true rfl, Nat.le_of_ble_eq_true rfl, Nat.le_of_ble_eq_true rfl⟩ dX3_firstCell_18 (fun r18 σ18 => ?_)
  refine j_callNI [.int r4, .int r11, .int r18] (con5_cellIndex N r4 r11 r18) C mi5_cellIndex ms5_cellIndex lk3_72 rfl rfl ⟨Nat.le_of_ble_eq_true rfl, Nat.le_of_ble_eq_true rfl, Nat.le_of_ble_eq_true rfl, Nat.le_of_ble_eq_true rfl, Nat.le_of_ble_eq_true rfl⟩ dX3_firstCell_21 (fun r21 σ21 => ?_)
  exact j_iret C hr hlocks rfl dX3_firstCell_24 (Nat.le_of_ble_eq_true rfl) (Nat.le_of_ble_eq_true rfl)
set_option maxHeartbeats 4000000 in
set_option maxRecDepth 100000 in
theorem con3_paintPartHead (N : Nat) (g : Nat) (x1 : Int32) (x2 : Int32) (hg : isP g) : ConV yX3_paintPartHead cX3_paintPartHead 8 rm3_paintPartHead (fun E => [.ref (ea E g), .int x1, .int x2]) (f3_paintPartHead N g x1 x2) := by
  refine conV_of (L := fun E => [(0, .ref (ea E g)), (1, .int x1), (2, .int x2)]) (by decide) (fun _ => Nat.le_of_ble_eq_true rfl) (fun _ => rfl) ?_
  intro l E σ p e s m args below meth c C hr hlocks
  unfold f3_paintPartHead
  refine j_aload_n 0 C dX3_paintPartHead_0 rfl rfl ?_
  refine j_iload_n 1 C dX3_paintPartHead_1 rfl rfl ?_
  refine j_iload_n 2 C dX3_paintPartHead_2 rfl rfl ?_
  refine j_callVI [.int x1, .int x2] (con3_firstCell N g x1 x2 hg) C mi3_firstCell mv3_firstCell lk3_162 (P_lt hg) (ct_P E hg _) rfl rfl rfl ⟨Nat.le_of_ble_eq_true rfl, Nat.le_of_ble_eq_true rfl, Nat.le_of_ble_eq_true rfl, Nat.le_of_ble_eq_true rfl, Nat.le_of_ble_eq_true rfl⟩ dX3_paintPartHead_3 (fun r3 σ3 => ?_)
  refine j_istore_n [(3, .int r3), (0, .ref (ea E g)), (1, .int x1), (2, .int x2)] C dX3_paintPartHead_6 rfl (by decide) rfl ?_
  refine j_aload_n 1 C dX3_paintPartHead_7 rfl rfl ?_
  refine j_iload_n 2 C dX3_paintPartHead_8 rfl rfl ?_
  refine j_iload_n 3 C dX3_paintPartHead_9 rfl rfl ?_
  refine j_iconst (v := 3) 3 C dX3_paintPartHead_10 (by decide) ?_
  refine j_callVI [.int x1, .int x2, .int 3] (con3_partNumber N g x1 x2 3 hg) C mi3_partNumber mv3_partNumber lk3_153 (P_lt hg) (ct_P E hg _) rfl rfl rfl ⟨Nat.le_of_ble_eq_true rfl, Nat.le_of_ble_eq_true rfl, Nat.le_of_ble_eq_true rfl, Nat.le_of_ble_eq_true rfl, Nat.le_of_ble_eq_true rfl⟩ dX3_paintPartHead_11 (fun r11 σ11 => ?_)
  refine j_istore [(4, .int r11), (3, .int r3), (0, .ref (ea E g)), (1, .int x1), (2, .int x2)] C dX3_paintPartHead_14 (by decide) rfl ?_
  refine j_iload_n 4 C dX3_paintPartHead_16 rfl rfl ?_
  refine j_zle 32 C dX3_paintPartHead_17 (by decide) ?_ ?_
  · refine j_aload_n 2 C dX3_paintPartHead_32 rfl rfl ?_
    refine j_get 0 C fl3_12 (P_lt hg) (ct_P E hg _) rfl dX3_paintPartHead_33 ?_
    refine j_iload_n 3 C dX3_paintPartHead_36 rfl rfl ?_
    refine j_iconst (v := 2) 2 C dX3_paintPartHead_37 (by decide) ?_
    refine j_callVI [.int x1, .int 2] (con1_storyNumber N (edOf g) x1 2 (isE_ed hg)) C mi1_storyNumber mv1_storyNumber lk3_96 (E_lt (isE_ed hg)) (ct_E E (isE_ed hg) _) rfl rfl rfl ⟨Nat.le_of_ble_eq_true rfl, Nat.le_of_ble_eq_true rfl, Nat.le_of_ble_eq_true rfl, Nat.le_of_ble_eq_true rfl, Nat.le_of_ble_eq_true rfl⟩ dX3_paintPartHead_38 (fun r38 σ38 => ?_)
    refine j_istore [(5, .int r38), (4, .int r11), (3, .int r3), (0, .ref (ea E g)), (1, .int x1), (2, .int x2)] C dX3_paintPartHead_41 (by decide) rfl ?_
    refine j_aload_n 3 C dX3_paintPartHead_43 rfl rfl ?_
    refine j_get 0 C fl3_12 (P_lt hg) (ct_P E hg _) rfl dX3_paintPartHead_44 ?_
    refine j_iload_n 4 C dX3_paintPartHead_47 rfl rfl ?_
    refine j_iconst (v := 5) 5 C dX3_paintPartHead_48 (by decide) ?_
    refine j_callVI [.int x1, .int 5] (con1_storyNumber N (edOf g) x1 5 (isE_ed hg)) C mi1_storyNumber mv1_storyNumber lk3_96 (E_lt (isE_ed hg)) (ct_E E (isE_ed hg) _) rfl rfl rfl ⟨Nat.le_of_ble_eq_true rfl, Nat.le_of_ble_eq_true rfl, Nat.le_of_ble_eq_true rfl, Nat.le_of_ble_eq_true rfl, Nat.le_of_ble_eq_true rfl⟩ dX3_paintPartHead_49 (fun r49 σ49 => ?_)
    refine j_istore [(6, .int r49), (5, .int r38), (4, .int r11), (3, .int r3), (0, .ref (ea E g)), (1, .int x1), (2, .int x2)] C dX3_paintPartHead_52 (by decide) rfl ?_
    refine j_aload_n 4 C dX3_paintPartHead_54 rfl rfl ?_
    refine j_get 0 C fl3_12 (P_lt hg) (ct_P E hg _) rfl dX3_paintPartHead_55 ?_
    refine j_iload_n 5 C dX3_paintPartHead_58 rfl rfl ?_
    refine j_bipush (v := 6) 6 C dX3_paintPartHead_59 (by decide) ?_
    refine j_callVI [.int x1, .int 6] (con1_storyNumber N (edOf g) x1 6 (isE_ed hg)) C mi1_storyNumber mv1_storyNumber lk3_96 (E_lt (isE_ed hg)) (ct_E E (isE_ed hg) _) rfl rfl rfl ⟨Nat.le_of_ble_eq_true rfl, Nat.le_of_ble_eq_true rfl, Nat.le_of_ble_eq_true rfl, Nat.le_of_ble_eq_true rfl, Nat.le_of_ble_eq_true rfl⟩ dX3_paintPartHead_61 (fun r61 σ61 => ?_)
    refine j_istore [(7, .int r61), (6, .int r49), (5, .int r38), (4, .int r11), (3, .int r3), (0, .ref (ea E g)), (1, .int x1), (2, .int x2)] C dX3_paintPartHead_64 (by decide) rfl ?_
    refine j_aload_n 5 C dX3_paintPartHead_66 rfl rfl ?_
    refine j_iload_n 4 C dX3_paintPartHead_67 rfl rfl ?_
    refine j_iload 3 C dX3_paintPartHead_68 rfl ?_
    refine j_iload 2 C dX3_paintPartHead_70 rfl ?_
    refine j_iconst (v := 2) 2 C dX3_paintPartHead_72 (by decide) ?_
    refine j_iload_n 6 C dX3_paintPartHead_73 rfl rfl ?_
    refine j_callVV [.int r3, .int r11, .int r38, .int 2, .int x1] (con3_paintBlock N g r3 r11 r38 2 x1 hg) C mi3_paintBlock mv3_paintBlock lk3_76 (P_lt hg) (ct_P E hg _) rfl rfl rfl ⟨Nat.le_of_ble_eq_true rfl, Nat.le_of_ble_eq_true rfl, Nat.le_of_ble_eq_true rfl, Nat.le_of_ble_eq_true rfl, Nat.le_of_ble_eq_true rfl⟩ dX3_paintPartHead_74 (fun σ74 => ?_)
    refine j_aload_n 5 C dX3_paintPartHead_77 rfl rfl ?_
    refine j_iload_n 4 C dX3_paintPartHead_78 rfl rfl ?_
    refine j_iload 2 C dX3_paintPartHead_79 rfl ?_
    refine j_iconst (v := 5) 5 C dX3_paintPartHead_81 (by decide) ?_
    refine j_imul C dX3_paintPartHead_82 ?_
    refine j_iadd C dX3_paintPartHead_83 ?_
    refine j_iload 3 C dX3_paintPartHead_84 rfl ?_
    refine j_iload 1 C dX3_paintPartHead_86 rfl ?_
    refine j_iconst (v := 3) 3 C dX3_paintPartHead_88 (by decide) ?_
    refine j_iload_n 6 C dX3_paintPartHead_89 rfl rfl ?_
    refine j_callVV [.int (r3 + (r38 * 5)), .int r11, .int r49, .int 3, .int x1] (con3_paintBlock N g (r3 + (r38 * 5)) r11 r49 3 x1 hg) C mi3_paintBlock mv3_paintBlock lk3_76 (P_lt hg) (ct_P E hg _) rfl rfl rfl ⟨Nat.le_of_ble_eq_true rfl, Nat.le_of_ble_eq_true rfl, Nat.le_of_ble_eq_true rfl, Nat.le_of_ble_eq_true rfl, Nat.le_of_ble_eq_true rfl⟩ dX3_paintPartHead_90 (fun σ90 => ?_)
    refine j_aload_n 5 C dX3_paintPartHead_93 rfl rfl ?_
    refine j_iload_n 4 C dX3_paintPartHead_94 rfl rfl ?_
    refine j_iload 2 C dX3_paintPartHead_95 rfl ?_
    refine j_iload 1 C dX3_paintPartHead_97 rfl ?_
    refine j_iadd C dX3_paintPartHead_99 ?_
    refine j_iconst (v := 5) 5 C dX3_paintPartHead_100 (by decide) ?_
    refine j_imul C dX3_paintPartHead_101 ?_
    refine j_iadd C dX3_paintPartHead_102 ?_
    refine j_iload 3 C dX3_paintPartHead_103 rfl ?_
    refine j_iload 0 C dX3_paintPartHead_105 rfl ?_
    refine j_iconst (v := 4) 4 C dX3_paintPartHead_107 (by decide) ?_
    refine j_iload_n 6 C dX3_paintPartHead_108 rfl rfl ?_
    refine j_callVV [.int (r3 + ((r38 + r49) * 5)), .int r11, .int r61, .int 4, .int x1] (con3_paintBlock N g (r3 + ((r38 + r49) * 5)) r11 r61 4 x1 hg) C mi3_paintBlock mv3_paintBlock lk3_76 (P_lt hg) (ct_P E hg _) rfl rfl rfl ⟨Nat.le_of_ble_eq_true rfl, Nat.le_of_ble_eq_true rfl, Nat.le_of_ble_eq_true rfl, Nat.le_of_ble_eq_true rfl, Nat.le_of_ble_eq_true rfl⟩ dX3_paintPartHead_109 (fun σ109 => ?_)
    exact j_vret C hr hlocks dX3_paintPartHead_112 (Nat.le_of_ble_eq_true rfl) (Nat.le_of_ble_eq_true rfl)
  · refine j_aload_n 2 C dX3_paintPartHead_20 rfl rfl ?_
    refine j_iload_n 1 C dX3_paintPartHead_21 rfl rfl ?_
    refine j_iload 0 C dX3_paintPartHead_22 rfl ?_
    refine j_iconst (v := 1) 1 C dX3_paintPartHead_24 (by decide) ?_
    refine j_bipush (v := 7) 7 C dX3_paintPartHead_25 (by decide) ?_
    refine j_iload_n 3 C dX3_paintPartHead_27 rfl rfl ?_
    refine j_callVV [.int r3, .int r11, .int 1, .int 7, .int x1] (con3_paintBlock N g r3 r11 1 7 x1 hg) C mi3_paintBlock mv3_paintBlock lk3_76 (P_lt hg) (ct_P E hg _) rfl rfl rfl ⟨Nat.le_of_ble_eq_true rfl, Nat.le_of_ble_eq_true rfl, Nat.le_of_ble_eq_true rfl, Nat.le_of_ble_eq_true rfl, Nat.le_of_ble_eq_true rfl⟩ dX3_paintPartHead_28 (fun σ28 => ?_)
    exact j_vret C hr hlocks dX3_paintPartHead_31 (Nat.le_of_ble_eq_true rfl) (Nat.le_of_ble_eq_true rfl)
set_option maxHeartbeats 4000000 in
set_option maxRecDepth 100000 in
theorem con3_firstLineCell (N : Nat) (g : Nat) (x1 : Int32) (x2 : Int32) (hg : isP g) : ConI yX3_firstLineCell cX3_firstLineCell 3 .int rm3_firstLineCell (fun E => [.ref (ea E g), .int x1, .int x2]) (f3_firstLineCell N g x1 x2) := by
  refine conI_of (L := fun E => [(0, .ref (ea E g)), (1, .int x1), (2, .int x2)]) (by decide) (fun _ => Nat.le_of_ble_eq_true rfl) (fun _ => rfl) ?_
  intro l E σ p e s m args below meth c C hr hlocks
  unfold f3_firstLineCell
  refine j_aload_n 0 C dX3_firstLineCell_0 rfl rfl ?_
  refine j_iload_n 1 C dX3_firstLineCell_1 rfl rfl ?_
  refine j_iload_n 2 C dX3_firstLineCell_2 rfl rfl ?_
  refine j_callVI [.int x1, .int x2] (con3_firstCell N g x1 x2 hg) C mi3_firstCell mv3_firstCell lk3_162 (P_lt hg) (ct_P E hg _) rfl rfl rfl ⟨Nat.le_of_ble_eq_true rfl, Nat.le_of_ble_eq_true rfl, Nat.le_of_ble_eq_true rfl, Nat.le_of_ble_eq_true rfl, Nat.le_of_ble_eq_true rfl⟩ dX3_firstLineCell_3 (fun r3 σ3 => ?_)
  refine j_aload_n 0 C dX3_firstLineCell_6 rfl rfl ?_
  refine j_iload_n 1 C dX3_firstLineCell_7 rfl rfl ?_
  refine j_iload_n 2 C dX3_firstLineCell_8 rfl rfl ?_
  refine j_bipush (v := 8) 8 C dX3_firstLineCell_9 (by decide) ?_
  refine j_callVI [.int x1, .int x2, .int 8] (con3_partNumber N g x1 x2 8 hg) C mi3_partNumber mv3_partNumber lk3_153 (P_lt hg) (ct_P E hg _) rfl rfl rfl ⟨Nat.le_of_ble_eq_true rfl, Nat.le_of_ble_eq_true rfl, Nat.le_of_ble_eq_true rfl, Nat.le_of_ble_eq_true rfl, Nat.le_of_ble_eq_true rfl⟩ dX3_firstLineCell_11 (fun r11 σ11 => ?_)
  refine j_iconst (v := 5) 5 C dX3_firstLineCell_14 (by decide) ?_
  refine j_imul C dX3_firstLineCell_15 ?_
  refine j_iadd C dX3_firstLineCell_16 ?_
  exact j_iret C hr hlocks rfl dX3_firstLineCell_17 (Nat.le_of_ble_eq_true rfl) (Nat.le_of_ble_eq_true rfl)
set_option maxHeartbeats 4000000 in
set_option maxRecDepth 100000 in
theorem con3_paintPart (N : Nat) (g : Nat) (x1 : Int32) (x2 : Int32) (hg : isP g) : ConV yX3_paintPart cX3_paintPart 9 rm3_paintPart (fun E => [.ref (ea E g), .int x1, .int x2]) (f3_paintPart N g x1 x2) := by
  refine conV_of (L := fun E => [(0, .ref (ea E g)), (1, .int x1), (2, .int x2)]) (by decide) (fun _ => Nat.le_of_ble_eq_true rfl) (fun _ => rfl) ?_
  intro l E σ p e s m args below meth c C hr hlocks
  have wL77 : ∀ (x3 : Int32) (x4 : Int32) (x5 : Int32) (x6 : Int32) (x7 : Int32) (K77 : Hp → Option (Unit × Hp)), (∀ (σ : Hp), J E 9 p l e rm3_paintPart s m args below meth c (QV E below args s rm3_paintPart.cells rm3_paintPart.slots) (K77 σ) 109 [(0, .ref (ea E g)), (1, .int x1), (3, .int x3), (5, .int x5), (6, .int x6), (7, .int x7)] [] σ 0 0) → ∀ (n77 : Nat) (x8 : Int32) (σ : Hp), J E 9 p l e rm3_paintPart s m args below meth c (QV E below args s rm3_paintPart.cells rm3_paintPart.slots) (f3_paintPart_L77 N g x1 x2 x3 x4 x5 x6 x7 K77 n77 x8 σ) 77 [(0, .ref (ea E g)), (1, .int x1), (3, .int x3), (4, .int x4), (5, .int x5), (6, .int x6), (7, .int x7), (8, .int x8)] [] σ 0 0 := by
    intro x3 x4 x5 x6 x7 K77 HK77 n77
    induction n77 with
    | zero => intro x8 σ; exact j_none
    | succ n77 ih77 =>
      intro x8 σ
      show J E 9 p l e rm3_paintPart s m args below meth c (QV E below args s rm3_paintPart.cells rm3_paintPart.slots) (f3_paintPart_B77 N g x1 x2 x3 x4 x5 x6 x7 K77 (f3_paintPart_L77 N g x1 x2 x3 x4 x5 x6 x7 K77 n77) x8 σ) 77 [(0, .ref (ea E g)), (1, .int x1), (3, .int x3), (4, .int x4), (5, .int x5), (6, .int x6), (7, .int x7), (8, .int x8)] [] σ 0 0
      unfold f3_paintPart_B77
      refine j_iload 7 C dX3_paintPart_77 rfl ?_
      refine j_iload_n 2 C dX3_paintPart_79 rfl rfl ?_
      refine j_ige 109 C dX3_paintPart_80 (by decide) ?_ ?_
      · exact j_sub [0, 1, 2, 4, 5, 6] rfl (HK77 σ)
      · refine j_aload_n 0 C dX3_paintPart_83 rfl rfl ?_
        refine j_iload 5 C dX3_paintPart_84 rfl ?_
        refine j_iload 7 C dX3_paintPart_86 rfl ?_
        refine j_iadd C dX3_paintPart_88 ?_
        refine j_iconst (v := 1) 1 C dX3_paintPart_89 (by decide) ?_
        refine j_iload 3 C dX3_paintPart_90 rfl ?_
        refine j_iload_n 2 C dX3_paintPart_92 rfl rfl ?_
        refine j_iload 7 C dX3_paintPart_93 rfl ?_
        refine j_callSI [.int x4, .int x3, .int x8] (con3_linesOfColumn N x4 x3 x8) C mi3_linesOfColumn ms3_linesOfColumn lk3_137 rfl rfl ⟨Nat.le_of_ble_eq_true rfl, Nat.le_of_ble_eq_true rfl, Nat.le_of_ble_eq_true rfl, Nat.le_of_ble_eq_true rfl, Nat.le_of_ble_eq_true rfl⟩ dX3_paintPart_95 (fun r95 σ95 => ?_)
        refine j_iconst (v := 5) 5 C dX3_paintPart_98 (by decide) ?_
        refine j_iload_n 1 C dX3_paintPart_99 rfl rfl ?_
        refine j_callVV [.int (x6 + x8), .int 1, .int r95, .int 5, .int x1] (con3_paintBlock N g (x6 + x8) 1 r95 5 x1 hg) C mi3_paintBlock mv3_paintBlock lk3_76 (P_lt hg) (ct_P E hg _) rfl rfl rfl ⟨Nat.le_of_ble_eq_true rfl, Nat.le_of_ble_eq_true rfl, Nat.le_of_ble_eq_true rfl, Nat.le_of_ble_eq_true rfl, Nat.le_of_ble_eq_true rfl⟩ dX3_paintPart_100 (fun σ100 => ?_)
        refine j_iinc 7 1 [(8, .int (x8 + 1)), (0, .ref (ea E g)), (1, .int x1), (3, .int x3), (4, .int x4), (5, .int x5), (6, .int x6), (7, .int x7)] C dX3_paintPart_103 rfl rfl (by decide) rfl ?_
        refine j_goto 77 C dX3_paintPart_106 (by decide) ?_
        exact j_sub [1, 2, 3, 4, 5, 6, 7, 0] rfl (ih77 (x8 + 1) σ100)
  unfold f3_paintPart
  refine j_aload_n 0 C dX3_paintPart_0 rfl rfl ?_
  refine j_iload_n 1 C dX3_paintPart_1 rfl rfl ?_
  refine j_iload_n 2 C dX3_paintPart_2 rfl rfl ?_
  refine j_iconst (v := 3) 3 C dX3_paintPart_3 (by decide) ?_
  refine j_callVI [.int x1, .int x2, .int 3] (con3_partNumber N g x1 x2 3 hg) C mi3_partNumber mv3_partNumber lk3_153 (P_lt hg) (ct_P E hg _) rfl rfl rfl ⟨Nat.le_of_ble_eq_true rfl, Nat.le_of_ble_eq_true rfl, Nat.le_of_ble_eq_true rfl, Nat.le_of_ble_eq_true rfl, Nat.le_of_ble_eq_true rfl⟩ dX3_paintPart_4 (fun r4 σ4 => ?_)
  refine j_istore_n [(3, .int r4), (0, .ref (ea E g)), (1, .int x1), (2, .int x2)] C dX3_paintPart_7 rfl (by decide) rfl ?_
  refine j_aload_n 1 C dX3_paintPart_8 rfl rfl ?_
  refine j_iload_n 2 C dX3_paintPart_9 rfl rfl ?_
  refine j_iload_n 3 C dX3_paintPart_10 rfl rfl ?_
  refine j_iconst (v := 5) 5 C dX3_paintPart_11 (by decide) ?_
  refine j_callVI [.int x1, .int x2, .int 5] (con3_partNumber N g x1 x2 5 hg) C mi3_partNumber mv3_partNumber lk3_153 (P_lt hg) (ct_P E hg _) rfl rfl rfl ⟨Nat.le_of_ble_eq_true rfl, Nat.le_of_ble_eq_true rfl, Nat.le_of_ble_eq_true rfl, Nat.le_of_ble_eq_true rfl, Nat.le_of_ble_eq_true rfl⟩ dX3_paintPart_12 (fun r12 σ12 => ?_)
  refine j_istore [(4, .int r12), (3, .int r4), (0, .ref (ea E g)), (1, .int x1), (2, .int x2)] C dX3_paintPart_15 (by decide) rfl ?_
  refine j_aload_n 2 C dX3_paintPart_17 rfl rfl ?_
  refine j_iload_n 3 C dX3_paintPart_18 rfl rfl ?_
  refine j_iload_n 4 C dX3_paintPart_19 rfl rfl ?_
  refine j_bipush (v := 7) 7 C dX3_paintPart_20 (by decide) ?_
  refine j_callVI [.int x1, .int x2, .int 7] (con3_partNumber N g x1 x2 7 hg) C mi3_partNumber mv3_partNumber lk3_153 (P_lt hg) (ct_P E hg _) rfl rfl rfl ⟨Nat.le_of_ble_eq_true rfl, Nat.le_of_ble_eq_true rfl, Nat.le_of_ble_eq_true rfl, Nat.le_of_ble_eq_true rfl, Nat.le_of_ble_eq_true rfl⟩ dX3_paintPart_22 (fun r22 σ22 => ?_)
  refine j_istore [(5, .int r22), (4, .int r12), (3, .int r4), (0, .ref (ea E g)), (1, .int x1), (2, .int x2)] C dX3_paintPart_25 (by decide) rfl ?_
  refine j_aload_n 3 C dX3_paintPart_27 rfl rfl ?_
  refine j_iload_n 4 C dX3_paintPart_28 rfl rfl ?_
  refine j_iload_n 5 C dX3_paintPart_29 rfl rfl ?_
  refine j_callVV [.int x1, .int x2] (con3_paintPartHead N g x1 x2 hg) C mi3_paintPartHead mv3_paintPartHead lk3_156 (P_lt hg) (ct_P E hg _) rfl rfl rfl ⟨Nat.le_of_ble_eq_true rfl, Nat.le_of_ble_eq_true rfl, Nat.le_of_ble_eq_true rfl, Nat.le_of_ble_eq_true rfl, Nat.le_of_ble_eq_true rfl⟩ dX3_paintPart_30 (fun σ30 => ?_)
  refine j_aload_n 3 C dX3_paintPart_33 rfl rfl ?_
  refine j_iload_n 4 C dX3_paintPart_34 rfl rfl ?_
  refine j_iload_n 5 C dX3_paintPart_35 rfl rfl ?_
  refine j_callVI [.int x1, .int x2] (con3_firstLineCell N g x1 x2 hg) C mi3_firstLineCell mv3_firstLineCell lk3_159 (P_lt hg) (ct_P E hg _) rfl rfl rfl ⟨Nat.le_of_ble_eq_true rfl, Nat.le_of_ble_eq_true rfl, Nat.le_of_ble_eq_true rfl, Nat.le_of_ble_eq_true rfl, Nat.le_of_ble_eq_true rfl⟩ dX3_paintPart_36 (fun r36 σ36 => ?_)
  refine j_istore [(6, .int r36), (5, .int r22), (4, .int r12), (3, .int r4), (0, .ref (ea E g)), (1, .int x1), (2, .int x2)] C dX3_paintPart_39 (by decide) rfl ?_
  refine j_aload_n 4 C dX3_paintPart_41 rfl rfl ?_
  refine j_iload_n 5 C dX3_paintPart_42 rfl rfl ?_
  refine j_iload_n 6 C dX3_paintPart_43 rfl rfl ?_
  refine j_iconst (v := 4) 4 C dX3_paintPart_44 (by decide) ?_
  refine j_callVI [.int x1, .int x2, .int 4] (con3_partNumber N g x1 x2 4 hg) C mi3_partNumber mv3_partNumber lk3_153 (P_lt hg) (ct_P E hg _) rfl rfl rfl ⟨Nat.le_of_ble_eq_true rfl, Nat.le_of_ble_eq_true rfl, Nat.le_of_ble_eq_true rfl, Nat.le_of_ble_eq_true rfl, Nat.le_of_ble_eq_true rfl⟩ dX3_paintPart_45 (fun r45 σ45 => ?_)
  refine j_aload_n 4 C dX3_paintPart_48 rfl rfl ?_
  refine j_iload_n 5 C dX3_paintPart_49 rfl rfl ?_
  refine j_iload_n 6 C dX3_paintPart_50 rfl rfl ?_
  refine j_bipush (v := 8) 8 C dX3_paintPart_51 (by decide) ?_
  refine j_callVI [.int x1, .int x2, .int 8] (con3_partNumber N g x1 x2 8 hg) C mi3_partNumber mv3_partNumber lk3_153 (P_lt hg) (ct_P E hg _) rfl rfl rfl ⟨Nat.le_of_ble_eq_true rfl, Nat.le_of_ble_eq_true rfl, Nat.le_of_ble_eq_true rfl, Nat.le_of_ble_eq_true rfl, Nat.le_of_ble_eq_true rfl⟩ dX3_paintPart_53 (fun r53 σ53 => ?_)
  refine j_isub C dX3_paintPart_56 ?_
  refine j_iload 1 C dX3_paintPart_57 rfl ?_
  refine j_isub C dX3_paintPart_59 ?_
  refine j_istore [(7, .int ((r45 - r53) - r22)), (6, .int r36), (5, .int r22), (4, .int r12), (3, .int r4), (0, .ref (ea E g)), (1, .int x1), (2, .int x2)] C dX3_paintPart_60 (by decide) rfl ?_
  refine j_aload_n 5 C dX3_paintPart_62 rfl rfl ?_
  refine j_iload 1 C dX3_paintPart_63 rfl ?_
  refine j_iload_n 4 C dX3_paintPart_65 rfl rfl ?_
  refine j_iload 0 C dX3_paintPart_66 rfl ?_
  refine j_bipush (v := 8) 8 C dX3_paintPart_68 (by decide) ?_
  refine j_iload_n 6 C dX3_paintPart_70 rfl rfl ?_
  refine j_callVV [.int r36, .int r4, .int ((r45 - r53) - r22), .int 8, .int x1] (con3_paintBlock N g r36 r4 ((r45 - r53) - r22) 8 x1 hg) C mi3_paintBlock mv3_paintBlock lk3_76 (P_lt hg) (ct_P E hg _) rfl rfl rfl ⟨Nat.le_of_ble_eq_true rfl, Nat.le_of_ble_eq_true rfl, Nat.le_of_ble_eq_true rfl, Nat.le_of_ble_eq_true rfl, Nat.le_of_ble_eq_true rfl⟩ dX3_paintPart_71 (fun σ71 => ?_)
  refine j_iconst (v := 0) 0 C dX3_paintPart_74 (by decide) ?_
  refine j_istore [(8, .int 0), (7, .int ((r45 - r53) - r22)), (6, .int r36), (5, .int r22), (4, .int r12), (3, .int r4), (0, .ref (ea E g)), (1, .int x1), (2, .int x2)] C dX3_paintPart_75 (by decide) rfl ?_
  refine j_sub [6, 7, 5, 4, 3, 2, 1, 0] rfl (wL77 r4 r12 r22 r36 ((r45 - r53) - r22) _ (fun σL77 => ?_) N 0 σ71)
  refine j_aload_n 0 C dX3_paintPart_109 rfl rfl ?_
  refine j_iload 4 C dX3_paintPart_110 rfl ?_
  refine j_iload 5 C dX3_paintPart_112 rfl ?_
  refine j_iconst (v := 5) 5 C dX3_paintPart_114 (by decide) ?_
  refine j_imul C dX3_paintPart_115 ?_
  refine j_iadd C dX3_paintPart_116 ?_
  refine j_iload_n 2 C dX3_paintPart_117 rfl rfl ?_
  refine j_iload 3 C dX3_paintPart_118 rfl ?_
  refine j_bipush (v := 6) 6 C dX3_paintPart_120 (by decide) ?_
  refine j_iload_n 1 C dX3_paintPart_122 rfl rfl ?_
  refine j_callVV [.int (r36 + (((r45 - r53) - r22) * 5)), .int r4, .int r22, .int 6, .int x1] (con3_paintBlock N g (r36 + (((r45 - r53) - r22) * 5)) r4 r22 6 x1 hg) C mi3_paintBlock mv3_paintBlock lk3_76 (P_lt hg) (ct_P E hg _) rfl rfl rfl ⟨Nat.le_of_ble_eq_true rfl, Nat.le_of_ble_eq_true rfl, Nat.le_of_ble_eq_true rfl, Nat.le_of_ble_eq_true rfl, Nat.le_of_ble_eq_true rfl⟩ dX3_paintPart_123 (fun σ123 => ?_)
  exact j_vret C hr hlocks dX3_paintPart_126 (Nat.le_of_ble_eq_true rfl) (Nat.le_of_ble_eq_true rfl)
set_option maxHeartbeats 4000000 in
set_option maxRecDepth 100000 in
theorem con3_placeStory (N : Nat) (g : Nat) (x1 : Int32) (hg : isP g) : ConV yX3_placeStory cX3_placeStory 5 rm3_placeStory (fun E => [.ref (ea E g), .int x1]) (f3_placeStory N g x1) := by
  refine conV_of (L := fun E => [(0, .ref (ea E g)), (1, .int x1)]) (by decide) (fun _ => Nat.le_of_ble_eq_true rfl) (fun _ => rfl) ?_
  intro l E σ p e s m args below meth c C hr hlocks
  have wL8 : ∀ (K8 : Hp → Option (Unit × Hp)), (∀ (σ : Hp), J E 5 p l e rm3_placeStory s m args below meth c (QV E below args s rm3_placeStory.cells rm3_placeStory.slots) (K8 σ) 61 [] [] σ 0 0) → ∀ (n8 : Nat) (x2 : Int32) (x3 : Int32) (σ : Hp), J E 5 p l e rm3_placeStory s m args below meth c (QV E below args s rm3_placeStory.cells rm3_placeStory.slots) (f3_placeStory_L8 N g x1 K8 n8 x2 x3 σ) 8 [(0, .ref (ea E g)), (1, .int x1), (2, .int x2), (3, .int x3)] [] σ 0 0 := by
    intro K8 HK8 n8
    induction n8 with
    | zero => intro x2 x3 σ; exact j_none
    | succ n8 ih8 =>
      have wJ48 : ∀ (x3 : Int32) (y0 : Int32) (σ : Hp), J E 5 p l e rm3_placeStory s m args below meth c (QV E below args s rm3_placeStory.cells rm3_placeStory.slots) (f3_placeStory_J48 N g x1 K8 (f3_placeStory_L8 N g x1 K8 n8) x3 y0 σ) 48 [(0, .ref (ea E g)), (1, .int x1), (3, .int x3)] [.int y0] σ 0 0 := by
        intro x3 y0 σ
        unfold f3_placeStory_J48
        refine j_istore_n [(2, .int y0), (0, .ref (ea E g)), (1, .int x1), (3, .int x3)] C dX3_placeStory_48 rfl (by decide) rfl ?_
        refine j_aload_n 1 C dX3_placeStory_49 rfl rfl ?_
        refine j_iload_n 2 C dX3_placeStory_50 rfl rfl ?_
        refine j_iload_n 3 C dX3_placeStory_51 rfl rfl ?_
        refine j_callVV [.int x1, .int x3] (con3_paintPart N g x1 x3 hg) C mi3_paintPart mv3_paintPart lk3_111 (P_lt hg) (ct_P E hg _) rfl rfl rfl ⟨Nat.le_of_ble_eq_true rfl, Nat.le_of_ble_eq_true rfl, Nat.le_of_ble_eq_true rfl, Nat.le_of_ble_eq_true rfl, Nat.le_of_ble_eq_true rfl⟩ dX3_placeStory_52 (fun σ52 => ?_)
        refine j_iinc 3 1 [(3, .int (x3 + 1)), (2, .int y0), (0, .ref (ea E g)), (1, .int x1)] C dX3_placeStory_55 rfl rfl (by decide) rfl ?_
        refine j_goto 8 C dX3_placeStory_58 (by decide) ?_
        exact j_sub [2, 3, 1, 0] rfl (ih8 y0 (x3 + 1) σ52)
      intro x2 x3 σ
      show J E 5 p l e rm3_placeStory s m args below meth c (QV E below args s rm3_placeStory.cells rm3_placeStory.slots) (f3_placeStory_B8 N g x1 K8 (f3_placeStory_L8 N g x1 K8 n8) x2 x3 σ) 8 [(0, .ref (ea E g)), (1, .int x1), (2, .int x2), (3, .int x3)] [] σ 0 0
      unfold f3_placeStory_B8
      refine j_iload_n 3 C dX3_placeStory_8 rfl rfl ?_
      refine j_iconst (v := 4) 4 C dX3_placeStory_9 (by decide) ?_
      refine j_ige 61 C dX3_placeStory_10 (by decide) ?_ ?_
      · exact j_sub [] rfl (HK8 σ)
      · refine j_iload_n 2 C dX3_placeStory_13 rfl rfl ?_
        refine j_iconst (v := (-1)) (-1) C dX3_placeStory_14 (by decide) ?_
        refine j_ieq 61 C dX3_placeStory_15 (by decide) ?_ ?_
        · exact j_sub [] rfl (HK8 σ)
        · refine j_aload_n 0 C dX3_placeStory_18 rfl rfl ?_
          refine j_iload_n 2 C dX3_placeStory_19 rfl rfl ?_
          refine j_callVI [.int x2] (con3_findGoOn N g x2 hg) C mi3_findGoOn mv3_findGoOn lk3_102 (P_lt hg) (ct_P E hg _) rfl rfl rfl ⟨Nat.le_of_ble_eq_true rfl, Nat.le_of_ble_eq_true rfl, Nat.le_of_ble_eq_true rfl, Nat.le_of_ble_eq_true rfl, Nat.le_of_ble_eq_true rfl⟩ dX3_placeStory_20 (fun r20 σ20 => ?_)
          refine j_istore [(4, .int r20), (0, .ref (ea E g)), (1, .int x1), (2, .int x2), (3, .int x3)] C dX3_placeStory_23 (by decide) rfl ?_
          refine j_iload_n 4 C dX3_placeStory_25 rfl rfl ?_
          refine j_zne 40 C dX3_placeStory_26 (by decide) ?_ ?_
          · refine j_aload_n 1 C dX3_placeStory_40 rfl rfl ?_
            refine j_iload_n 2 C dX3_placeStory_41 rfl rfl ?_
            refine j_iload_n 3 C dX3_placeStory_42 rfl rfl ?_
            refine j_iload 0 C dX3_placeStory_43 rfl ?_
            refine j_callVI [.int x1, .int x2, .int r20] (con3_placeContinuation N g x1 x2 r20 hg) C mi3_placeContinuation mv3_placeContinuation lk3_108 (P_lt hg) (ct_P E hg _) rfl rfl rfl ⟨Nat.le_of_ble_eq_true rfl, Nat.le_of_ble_eq_true rfl, Nat.le_of_ble_eq_true rfl, Nat.le_of_ble_eq_true rfl, Nat.le_of_ble_eq_true rfl⟩ dX3_placeStory_45 (fun r45 σ45 => ?_)
            exact j_sub [1, 2, 4] rfl (wJ48 x3 r45 σ45)
          · refine j_aload_n 1 C dX3_placeStory_29 rfl rfl ?_
            refine j_iload_n 2 C dX3_placeStory_30 rfl rfl ?_
            refine j_iload_n 3 C dX3_placeStory_31 rfl rfl ?_
            refine j_iload 0 C dX3_placeStory_32 rfl ?_
            refine j_callVI [.int x1, .int x2, .int r20] (con3_placeStart N g x1 x2 r20 hg) C mi3_placeStart mv3_placeStart lk3_105 (P_lt hg) (ct_P E hg _) rfl rfl rfl ⟨Nat.le_of_ble_eq_true rfl, Nat.le_of_ble_eq_true rfl, Nat.le_of_ble_eq_true rfl, Nat.le_of_ble_eq_true rfl, Nat.le_of_ble_eq_true rfl⟩ dX3_placeStory_34 (fun r34 σ34 => ?_)
            refine j_goto 48 C dX3_placeStory_37 (by decide) ?_
            exact j_sub [1, 2, 4] rfl (wJ48 x3 r34 σ34)
  unfold f3_placeStory
  refine j_aload_n 0 C dX3_placeStory_0 rfl rfl ?_
  refine j_iload_n 1 C dX3_placeStory_1 rfl rfl ?_
  refine j_callVI [.int x1] (con3_findStart N g x1 hg) C mi3_findStart mv3_findStart lk3_99 (P_lt hg) (ct_P E hg _) rfl rfl rfl ⟨Nat.le_of_ble_eq_true rfl, Nat.le_of_ble_eq_true rfl, Nat.le_of_ble_eq_true rfl, Nat.le_of_ble_eq_true rfl, Nat.le_of_ble_eq_true rfl⟩ dX3_placeStory_2 (fun r2 σ2 => ?_)
  refine j_istore_n [(2, .int r2), (0, .ref (ea E g)), (1, .int x1)] C dX3_placeStory_5 rfl (by decide) rfl ?_
  refine j_iconst (v := 0) 0 C dX3_placeStory_6 (by decide) ?_
  refine j_istore_n [(3, .int 0), (2, .int r2), (0, .ref (ea E g)), (1, .int x1)] C dX3_placeStory_7 rfl (by decide) rfl ?_
  refine j_sub [2, 3, 1, 0] rfl (wL8 _ (fun σL8 => ?_) N r2 0 σ2)
  exact j_vret C hr hlocks dX3_placeStory_61 (Nat.le_of_ble_eq_true rfl) (Nat.le_of_ble_eq_true rfl)
set_option maxHeartbeats 4000000 in
set_option maxRecDepth 100000 in
theorem con3_layOut (N : Nat) (g : Nat) (hg : isP g) : ConV yX3_layOut cX3_layOut 3 rm3_layOut (fun E => [.ref (ea E g)]) (f3_layOut N g) := by
  refine conV_of (L := fun E => [(0, .ref (ea E g))]) (by decide) (fun _ => Nat.le_of_ble_eq_true rfl) (fun _ => rfl) ?_
  intro l E σ p e s m args below meth c C hr hlocks
  have wL22 : ∀ (x1 : Int32) (K22 : Hp → Option (Unit × Hp)), (∀ (σ : Hp), J E 3 p l e rm3_layOut s m args below meth c (QV E below args s rm3_layOut.cells rm3_layOut.slots) (K22 σ) 42 [] [] σ 0 0) → ∀ (n22 : Nat) (x2 : Int32) (σ : Hp), J E 3 p l e rm3_layOut s m args below meth c (QV E below args s rm3_layOut.cells rm3_layOut.slots) (f3_layOut_L22 N g x1 K22 n22 x2 σ) 22 [(0, .ref (ea E g)), (1, .int x1), (2, .int x2)] [] σ 0 0 := by
    intro x1 K22 HK22 n22
    induction n22 with
    | zero => intro x2 σ; exact j_none
    | succ n22 ih22 =>
      intro x2 σ
      show J E 3 p l e rm3_layOut s m args below meth c (QV E below args s rm3_layOut.cells rm3_layOut.slots) (f3_layOut_B22 N g x1 K22 (f3_layOut_L22 N g x1 K22 n22) x2 σ) 22 [(0, .ref (ea E g)), (1, .int x1), (2, .int x2)] [] σ 0 0
      unfold f3_layOut_B22
      refine j_iload_n 2 C dX3_layOut_22 rfl rfl ?_
      refine j_iload_n 1 C dX3_layOut_23 rfl rfl ?_
      refine j_ige 42 C dX3_layOut_24 (by decide) ?_ ?_
      · exact j_sub [] rfl (HK22 σ)
      · refine j_aload_n 0 C dX3_layOut_27 rfl rfl ?_
        refine j_aload_n 0 C dX3_layOut_28 rfl rfl ?_
        refine j_iload_n 2 C dX3_layOut_29 rfl rfl ?_
        refine j_callVI [.int x2] (con3_storyOfRank N g x2 hg) C mi3_storyOfRank mv3_storyOfRank lk3_56 (P_lt hg) (ct_P E hg _) rfl rfl rfl ⟨Nat.le_of_ble_eq_true rfl, Nat.le_of_ble_eq_true rfl, Nat.le_of_ble_eq_true rfl, Nat.le_of_ble_eq_true rfl, Nat.le_of_ble_eq_true rfl⟩ dX3_layOut_30 (fun r30 σ30 => ?_)
        refine j_callVV [.int r30] (con3_placeStory N g r30 hg) C mi3_placeStory mv3_placeStory lk3_60 (P_lt hg) (ct_P E hg _) rfl rfl rfl ⟨Nat.le_of_ble_eq_true rfl, Nat.le_of_ble_eq_true rfl, Nat.le_of_ble_eq_true rfl, Nat.le_of_ble_eq_true rfl, Nat.le_of_ble_eq_true rfl⟩ dX3_layOut_33 (fun σ33 => ?_)
        refine j_iinc 2 1 [(2, .int (x2 + 1)), (0, .ref (ea E g)), (1, .int x1)] C dX3_layOut_36 rfl rfl (by decide) rfl ?_
        refine j_goto 22 C dX3_layOut_39 (by decide) ?_
        exact j_sub [1, 2, 0] rfl (ih22 (x2 + 1) σ33)
  unfold f3_layOut
  refine j_aload_n 0 C dX3_layOut_0 rfl rfl ?_
  refine j_callVV [] (con3_clear N g hg) C mi3_clear mv3_clear lk3_43 (P_lt hg) (ct_P E hg _) rfl rfl rfl ⟨Nat.le_of_ble_eq_true rfl, Nat.le_of_ble_eq_true rfl, Nat.le_of_ble_eq_true rfl, Nat.le_of_ble_eq_true rfl, Nat.le_of_ble_eq_true rfl⟩ dX3_layOut_1 (fun σ1 => ?_)
  refine j_aload_n 0 C dX3_layOut_4 rfl rfl ?_
  refine j_callVV [] (con3_paintAdvertisements N g hg) C mi3_paintAdvertisements mv3_paintAdvertisements lk3_46 (P_lt hg) (ct_P E hg _) rfl rfl rfl ⟨Nat.le_of_ble_eq_true rfl, Nat.le_of_ble_eq_true rfl, Nat.le_of_ble_eq_true rfl, Nat.le_of_ble_eq_true rfl, Nat.le_of_ble_eq_true rfl⟩ dX3_layOut_5 (fun σ5 => ?_)
  refine j_aload_n 0 C dX3_layOut_8 rfl rfl ?_
  refine j_callVV [] (con3_rankStories N g hg) C mi3_rankStories mv3_rankStories lk3_49 (P_lt hg) (ct_P E hg _) rfl rfl rfl ⟨Nat.le_of_ble_eq_true rfl, Nat.le_of_ble_eq_true rfl, Nat.le_of_ble_eq_true rfl, Nat.le_of_ble_eq_true rfl, Nat.le_of_ble_eq_true rfl⟩ dX3_layOut_9 (fun σ9 => ?_)
  refine j_aload_n 0 C dX3_layOut_12 rfl rfl ?_
  refine j_get 0 C fl3_12 (P_lt hg) (ct_P E hg _) rfl dX3_layOut_13 ?_
  refine j_callVI [] (con1_storyCount N (edOf g) (isE_ed hg)) C mi1_storyCount mv1_storyCount lk3_52 (E_lt (isE_ed hg)) (ct_E E (isE_ed hg) _) rfl rfl rfl ⟨Nat.le_of_ble_eq_true rfl, Nat.le_of_ble_eq_true rfl, Nat.le_of_ble_eq_true rfl, Nat.le_of_ble_eq_true rfl, Nat.le_of_ble_eq_true rfl⟩ dX3_layOut_16 (fun r16 σ16 => ?_)
  refine j_istore_n [(1, .int r16), (0, .ref (ea E g))] C dX3_layOut_19 rfl (by decide) rfl ?_
  refine j_iconst (v := 0) 0 C dX3_layOut_20 (by decide) ?_
  refine j_istore_n [(2, .int 0), (1, .int r16), (0, .ref (ea E g))] C dX3_layOut_21 rfl (by decide) rfl ?_
  refine j_sub [2, 1, 0] rfl (wL22 r16 _ (fun σL22 => ?_) N 0 σ16)
  exact j_vret C hr hlocks dX3_layOut_42 (Nat.le_of_ble_eq_true rfl) (Nat.le_of_ble_eq_true rfl)
set_option maxHeartbeats 4000000 in
set_option maxRecDepth 100000 in
theorem con3_cellInPart (N : Nat) (g : Nat) (x1 : Int32) (x2 : Int32) (x3 : Int32) (hg : isP g) : ConI yX3_cellInPart cX3_cellInPart 9 .int rm3_cellInPart (fun E => [.ref (ea E g), .int x1, .int x2, .int x3]) (f3_cellInPart N g x1 x2 x3) := by
  refine conI_of (L := fun E => [(0, .ref (ea E g)), (1, .int x1), (2, .int x2), (3, .int x3)]) (by decide) (fun _ => Nat.le_of_ble_eq_true rfl) (fun _ => rfl) ?_
  intro l E σ p e s m args below meth c C hr hlocks
  have wL24 : ∀ (x4 : Int32) (x5 : Int32) (K24 : Hp → Option (Int32 × Hp)), (∀ (σ : Hp), J E 9 p l e rm3_cellInPart s m args below meth c (QI E below args s rm3_cellInPart.cells rm3_cellInPart.slots) (K24 σ) 77 [] [] σ 0 0) → ∀ (n24 : Nat) (x6 : Int32) (x7 : Int32) (σ : Hp), J E 9 p l e rm3_cellInPart s m args below meth c (QI E below args s rm3_cellInPart.cells rm3_cellInPart.slots) (f3_cellInPart_L24 N g x1 x2 x3 x4 x5 K24 n24 x6 x7 σ) 24 [(0, .ref (ea E g)), (1, .int x1), (2, .int x2), (4, .int x4), (5, .int x5), (6, .int x6), (7, .int x7)] [] σ 0 0 := by
    intro x4 x5 K24 HK24 n24
    induction n24 with
    | zero => intro x6 x7 σ; exact j_none
    | succ n24 ih24 =>
      intro x6 x7 σ
      show J E 9 p l e rm3_cellInPart s m args below meth c (QI E below args s rm3_cellInPart.cells rm3_cellInPart.slots) (f3_cellInPart_B24 N g x1 x2 x3 x4 x5 K24 (f3_cellInPart_L24 N g x1 x2 x3 x4 x5 K24 n24) x6 x7 σ) 24 [(0, .ref (ea E g)), (1, .int x1), (2, .int x2), (4, .int x4), (5, .int x5), (6, .int x6), (7, .int x7)] [] σ 0 0
      unfold f3_cellInPart_B24
      refine j_iload 6 C dX3_cellInPart_24 rfl ?_
      refine j_iload 3 C dX3_cellInPart_26 rfl ?_
      refine j_ige 77 C dX3_cellInPart_28 (by decide) ?_ ?_
      · exact j_sub [] rfl (HK24 σ)
      · refine j_iload 4 C dX3_cellInPart_31 rfl ?_
        refine j_iload 3 C dX3_cellInPart_33 rfl ?_
        refine j_iload 6 C dX3_cellInPart_35 rfl ?_
        refine j_callSI [.int x5, .int x4, .int x7] (con3_linesOfColumn N x5 x4 x7) C mi3_linesOfColumn ms3_linesOfColumn lk3_137 rfl rfl ⟨Nat.le_of_ble_eq_true rfl, Nat.le_of_ble_eq_true rfl, Nat.le_of_ble_eq_true rfl, Nat.le_of_ble_eq_true rfl, Nat.le_of_ble_eq_true rfl⟩ dX3_cellInPart_37 (fun r37 σ37 => ?_)
        refine j_istore [(8, .int r37), (0, .ref (ea E g)), (1, .int x1), (2, .int x2), (4, .int x4), (5, .int x5), (6, .int x6), (7, .int x7)] C dX3_cellInPart_40 (by decide) rfl ?_
        refine j_iload 6 C dX3_cellInPart_42 rfl ?_
        refine j_iload 0 C dX3_cellInPart_44 rfl ?_
        refine j_ige 64 C dX3_cellInPart_46 (by decide) ?_ ?_
        · refine j_iload 6 C dX3_cellInPart_64 rfl ?_
          refine j_iload 0 C dX3_cellInPart_66 rfl ?_
          refine j_isub C dX3_cellInPart_68 ?_
          refine j_istore [(6, .int (x6 - r37)), (8, .int r37), (0, .ref (ea E g)), (1, .int x1), (2, .int x2), (4, .int x4), (5, .int x5), (7, .int x7)] C dX3_cellInPart_69 (by decide) rfl ?_
          refine j_iinc 7 1 [(7, .int (x7 + 1)), (6, .int (x6 - r37)), (8, .int r37), (0, .ref (ea E g)), (1, .int x1), (2, .int x2), (4, .int x4), (5, .int x5)] C dX3_cellInPart_71 rfl rfl (by decide) rfl ?_
          refine j_goto 24 C dX3_cellInPart_74 (by decide) ?_
          exact j_sub [3, 4, 5, 6, 7, 1, 0] rfl (ih24 (x6 - r37) (x7 + 1) σ37)
        · refine j_aload_n 1 C dX3_cellInPart_49 rfl rfl ?_
          refine j_iload_n 2 C dX3_cellInPart_50 rfl rfl ?_
          refine j_iload_n 3 C dX3_cellInPart_51 rfl rfl ?_
          refine j_callVI [.int x1, .int x2] (con3_firstLineCell N g x1 x2 hg) C mi3_firstLineCell mv3_firstLineCell lk3_159 (P_lt hg) (ct_P E hg _) rfl rfl rfl ⟨Nat.le_of_ble_eq_true rfl, Nat.le_of_ble_eq_true rfl, Nat.le_of_ble_eq_true rfl, Nat.le_of_ble_eq_true rfl, Nat.le_of_ble_eq_true rfl⟩ dX3_cellInPart_52 (fun r52 σ52 => ?_)
          refine j_iload 6 C dX3_cellInPart_55 rfl ?_
          refine j_iconst (v := 5) 5 C dX3_cellInPart_57 (by decide) ?_
          refine j_imul C dX3_cellInPart_58 ?_
          refine j_iadd C dX3_cellInPart_59 ?_
          refine j_iload 7 C dX3_cellInPart_60 rfl ?_
          refine j_iadd C dX3_cellInPart_62 ?_
          exact j_iret C hr hlocks rfl dX3_cellInPart_63 (Nat.le_of_ble_eq_true rfl) (Nat.le_of_ble_eq_true rfl)
  unfold f3_cellInPart
  refine j_aload_n 0 C dX3_cellInPart_0 rfl rfl ?_
  refine j_iload_n 1 C dX3_cellInPart_1 rfl rfl ?_
  refine j_iload_n 2 C dX3_cellInPart_2 rfl rfl ?_
  refine j_iconst (v := 3) 3 C dX3_cellInPart_3 (by decide) ?_
  refine j_callVI [.int x1, .int x2, .int 3] (con3_partNumber N g x1 x2 3 hg) C mi3_partNumber mv3_partNumber lk3_153 (P_lt hg) (ct_P E hg _) rfl rfl rfl ⟨Nat.le_of_ble_eq_true rfl, Nat.le_of_ble_eq_true rfl, Nat.le_of_ble_eq_true rfl, Nat.le_of_ble_eq_true rfl, Nat.le_of_ble_eq_true rfl⟩ dX3_cellInPart_4 (fun r4 σ4 => ?_)
  refine j_istore [(4, .int r4), (0, .ref (ea E g)), (1, .int x1), (2, .int x2), (3, .int x3)] C dX3_cellInPart_7 (by decide) rfl ?_
  refine j_aload_n 1 C dX3_cellInPart_9 rfl rfl ?_
  refine j_iload_n 2 C dX3_cellInPart_10 rfl rfl ?_
  refine j_iload_n 3 C dX3_cellInPart_11 rfl rfl ?_
  refine j_iconst (v := 5) 5 C dX3_cellInPart_12 (by decide) ?_
  refine j_callVI [.int x1, .int x2, .int 5] (con3_partNumber N g x1 x2 5 hg) C mi3_partNumber mv3_partNumber lk3_153 (P_lt hg) (ct_P E hg _) rfl rfl rfl ⟨Nat.le_of_ble_eq_true rfl, Nat.le_of_ble_eq_true rfl, Nat.le_of_ble_eq_true rfl, Nat.le_of_ble_eq_true rfl, Nat.le_of_ble_eq_true rfl⟩ dX3_cellInPart_13 (fun r13 σ13 => ?_)
  refine j_istore [(5, .int r13), (4, .int r4), (0, .ref (ea E g)), (1, .int x1), (2, .int x2), (3, .int x3)] C dX3_cellInPart_16 (by decide) rfl ?_
  refine j_iload_n 5 C dX3_cellInPart_18 rfl rfl ?_
  refine j_istore [(6, .int x3), (5, .int r13), (4, .int r4), (0, .ref (ea E g)), (1, .int x1), (2, .int x2), (3, .int x3)] C dX3_cellInPart_19 (by decide) rfl ?_
  refine j_iconst (v := 0) 0 C dX3_cellInPart_21 (by decide) ?_
  refine j_istore [(7, .int 0), (6, .int x3), (5, .int r13), (4, .int r4), (0, .ref (ea E g)), (1, .int x1), (2, .int x2), (3, .int x3)] C dX3_cellInPart_22 (by decide) rfl ?_
  refine j_sub [4, 5, 6, 3, 2, 1, 0] rfl (wL24 r4 r13 _ (fun σL24 => ?_) N x3 0 σ13)
  refine j_iconst (v := (-1)) (-1) C dX3_cellInPart_77 (by decide) ?_
  exact j_iret C hr hlocks rfl dX3_cellInPart_78 (Nat.le_of_ble_eq_true rfl) (Nat.le_of_ble_eq_true rfl)
set_option maxHeartbeats 4000000 in
set_option maxRecDepth 100000 in
theorem con3_cellOfLine (N : Nat) (g : Nat) (x1 : Int32) (x2 : Int32) (hg : isP g) : ConI yX3_cellOfLine cX3_cellOfLine 6 .int rm3_cellOfLine (fun E => [.ref (ea E g), .int x1, .int x2]) (f3_cellOfLine N g x1 x2) := by
  refine conI_of (L := fun E => [(0, .ref (ea E g)), (1, .int x1), (2, .int x2)]) (by decide) (fun _ => Nat.le_of_ble_eq_true rfl) (fun _ => rfl) ?_
  intro l E σ p e s m args below meth c C hr hlocks
  have wL2 : ∀ (K2 : Hp → Option (Int32 × Hp)), (∀ (σ : Hp), J E 6 p l e rm3_cellOfLine s m args below meth c (QI E below args s rm3_cellOfLine.cells rm3_cellOfLine.slots) (K2 σ) 59 [] [] σ 0 0) → ∀ (n2 : Nat) (x3 : Int32) (σ : Hp), J E 6 p l e rm3_cellOfLine s m args below meth c (QI E below args s rm3_cellOfLine.cells rm3_cellOfLine.slots) (f3_cellOfLine_L2 N g x1 x2 K2 n2 x3 σ) 2 [(0, .ref (ea E g)), (1, .int x1), (2, .int x2), (3, .int x3)] [] σ 0 0 := by
    intro K2 HK2 n2
    induction n2 with
    | zero => intro x3 σ; exact j_none
    | succ n2 ih2 =>
      have wJ53 : ∀ (x3 : Int32) (σ : Hp), J E 6 p l e rm3_cellOfLine s m args below meth c (QI E below args s rm3_cellOfLine.cells rm3_cellOfLine.slots) (f3_cellOfLine_J53 N g x1 x2 K2 (f3_cellOfLine_L2 N g x1 x2 K2 n2) x3 σ) 53 [(0, .ref (ea E g)), (1, .int x1), (2, .int x2), (3, .int x3)] [] σ 0 0 := by
        intro x3 σ
        unfold f3_cellOfLine_J53
        refine j_iinc 3 1 [(3, .int (x3 + 1)), (0, .ref (ea E g)), (1, .int x1), (2, .int x2)] C dX3_cellOfLine_53 rfl rfl (by decide) rfl ?_
        refine j_goto 2 C dX3_cellOfLine_56 (by decide) ?_
        exact j_sub [1, 2, 3, 0] rfl (ih2 (x3 + 1) σ)
      intro x3 σ
      show J E 6 p l e rm3_cellOfLine s m args below meth c (QI E below args s rm3_cellOfLine.cells rm3_cellOfLine.slots) (f3_cellOfLine_B2 N g x1 x2 K2 (f3_cellOfLine_L2 N g x1 x2 K2 n2) x3 σ) 2 [(0, .ref (ea E g)), (1, .int x1), (2, .int x2), (3, .int x3)] [] σ 0 0
      unfold f3_cellOfLine_B2
      refine j_iload_n 3 C dX3_cellOfLine_2 rfl rfl ?_
      refine j_aload_n 0 C dX3_cellOfLine_3 rfl rfl ?_
      refine j_iload_n 1 C dX3_cellOfLine_4 rfl rfl ?_
      refine j_callVI [.int x1] (con3_partCountOf N g x1 hg) C mi3_partCountOf mv3_partCountOf lk3_147 (P_lt hg) (ct_P E hg _) rfl rfl rfl ⟨Nat.le_of_ble_eq_true rfl, Nat.le_of_ble_eq_true rfl, Nat.le_of_ble_eq_true rfl, Nat.le_of_ble_eq_true rfl, Nat.le_of_ble_eq_true rfl⟩ dX3_cellOfLine_5 (fun r5 σ5 => ?_)
      refine j_ige 59 C dX3_cellOfLine_8 (by decide) ?_ ?_
      · exact j_sub [] rfl (HK2 σ5)
      · refine j_iload_n 2 C dX3_cellOfLine_11 rfl rfl ?_
        refine j_aload_n 0 C dX3_cellOfLine_12 rfl rfl ?_
        refine j_iload_n 1 C dX3_cellOfLine_13 rfl rfl ?_
        refine j_iload_n 3 C dX3_cellOfLine_14 rfl rfl ?_
        refine j_bipush (v := 6) 6 C dX3_cellOfLine_15 (by decide) ?_
        refine j_callVI [.int x1, .int x3, .int 6] (con3_partNumber N g x1 x3 6 hg) C mi3_partNumber mv3_partNumber lk3_153 (P_lt hg) (ct_P E hg _) rfl rfl rfl ⟨Nat.le_of_ble_eq_true rfl, Nat.le_of_ble_eq_true rfl, Nat.le_of_ble_eq_true rfl, Nat.le_of_ble_eq_true rfl, Nat.le_of_ble_eq_true rfl⟩ dX3_cellOfLine_17 (fun r17 σ17 => ?_)
        refine j_isub C dX3_cellOfLine_20 ?_
        refine j_istore [(4, .int (x2 - r17)), (0, .ref (ea E g)), (1, .int x1), (2, .int x2), (3, .int x3)] C dX3_cellOfLine_21 (by decide) rfl ?_
        refine j_aload_n 1 C dX3_cellOfLine_23 rfl rfl ?_
        refine j_iload_n 2 C dX3_cellOfLine_24 rfl rfl ?_
        refine j_iload_n 4 C dX3_cellOfLine_25 rfl rfl ?_
        refine j_iconst (v := 5) 5 C dX3_cellOfLine_26 (by decide) ?_
        refine j_callVI [.int x1, .int x3, .int 5] (con3_partNumber N g x1 x3 5 hg) C mi3_partNumber mv3_partNumber lk3_153 (P_lt hg) (ct_P E hg _) rfl rfl rfl ⟨Nat.le_of_ble_eq_true rfl, Nat.le_of_ble_eq_true rfl, Nat.le_of_ble_eq_true rfl, Nat.le_of_ble_eq_true rfl, Nat.le_of_ble_eq_true rfl⟩ dX3_cellOfLine_27 (fun r27 σ27 => ?_)
        refine j_istore [(5, .int r27), (4, .int (x2 - r17)), (0, .ref (ea E g)), (1, .int x1), (2, .int x2), (3, .int x3)] C dX3_cellOfLine_30 (by decide) rfl ?_
        refine j_iload 1 C dX3_cellOfLine_32 rfl ?_
        refine j_zlt 53 C dX3_cellOfLine_34 (by decide) ?_ ?_
        · exact j_sub [2, 3, 4, 5] rfl (wJ53 x3 σ27)
        · refine j_iload 1 C dX3_cellOfLine_37 rfl ?_
          refine j_iload 0 C dX3_cellOfLine_39 rfl ?_
          refine j_ige 53 C dX3_cellOfLine_41 (by decide) ?_ ?_
          · exact j_sub [2, 3, 4, 5] rfl (wJ53 x3 σ27)
          · refine j_aload_n 2 C dX3_cellOfLine_44 rfl rfl ?_
            refine j_iload_n 3 C dX3_cellOfLine_45 rfl rfl ?_
            refine j_iload_n 5 C dX3_cellOfLine_46 rfl rfl ?_
            refine j_iload 1 C dX3_cellOfLine_47 rfl ?_
            refine j_callVI [.int x1, .int x3, .int (x2 - r17)] (con3_cellInPart N g x1 x3 (x2 - r17) hg) C mi3_cellInPart mv3_cellInPart lk3_165 (P_lt hg) (ct_P E hg _) rfl rfl rfl ⟨Nat.le_of_ble_eq_true rfl, Nat.le_of_ble_eq_true rfl, Nat.le_of_ble_eq_true rfl, Nat.le_of_ble_eq_true rfl, Nat.le_of_ble_eq_true rfl⟩ dX3_cellOfLine_49 (fun r49 σ49 => ?_)
            exact j_iret C hr hlocks rfl dX3_cellOfLine_52 (Nat.le_of_ble_eq_true rfl) (Nat.le_of_ble_eq_true rfl)
  unfold f3_cellOfLine
  refine j_iconst (v := 0) 0 C dX3_cellOfLine_0 (by decide) ?_
  refine j_istore_n [(3, .int 0), (0, .ref (ea E g)), (1, .int x1), (2, .int x2)] C dX3_cellOfLine_1 rfl (by decide) rfl ?_
  refine j_sub [1, 2, 3, 0] rfl (wL2 _ (fun σL2 => ?_) N 0 σ)
  refine j_iconst (v := (-1)) (-1) C dX3_cellOfLine_59 (by decide) ?_
  exact j_iret C hr hlocks rfl dX3_cellOfLine_60 (Nat.le_of_ble_eq_true rfl) (Nat.le_of_ble_eq_true rfl)
set_option maxHeartbeats 4000000 in
set_option maxRecDepth 100000 in
theorem con3_kindAt (N : Nat) (g : Nat) (x1 : Int32) (hg : isP g) : ConI yX3_kindAt cX3_kindAt 2 .int rm3_kindAt (fun E => [.ref (ea E g), .int x1]) (f3_kindAt N g x1) := by
  refine conI_of (L := fun E => [(0, .ref (ea E g)), (1, .int x1)]) (by decide) (fun _ => Nat.le_of_ble_eq_true rfl) (fun _ => rfl) ?_
  intro l E σ p e s m args below meth c C hr hlocks
  unfold f3_kindAt
  refine j_iload_n 1 C dX3_kindAt_0 rfl rfl ?_
  refine j_callNI [.int x1] (con5_isCellIndex N x1) C mi5_isCellIndex ms5_isCellIndex lk3_131 rfl rfl ⟨Nat.le_of_ble_eq_true rfl, Nat.le_of_ble_eq_true rfl, Nat.le_of_ble_eq_true rfl, Nat.le_of_ble_eq_true rfl, Nat.le_of_ble_eq_true rfl⟩ dX3_kindAt_1 (fun r1 σ1 => ?_)
  refine j_zeq 16 C dX3_kindAt_4 (by decide) ?_ ?_
  · refine j_iconst (v := 0) 0 C dX3_kindAt_16 (by decide) ?_
    exact j_iret C hr hlocks rfl dX3_kindAt_17 (Nat.le_of_ble_eq_true rfl) (Nat.le_of_ble_eq_true rfl)
  · refine j_aload_n 0 C dX3_kindAt_7 rfl rfl ?_
    refine j_get 1 C fl3_18 (P_lt hg) (ct_P E hg _) rfl dX3_kindAt_8 ?_
    refine j_iload_n 1 C dX3_kindAt_11 rfl rfl ?_
    refine j_iald C (P_lt1 hg) (ct_P1 E hg _) dX3_kindAt_12 ?_
    refine j_goto 17 C dX3_kindAt_13 (by decide) ?_
    exact j_iret C hr hlocks rfl dX3_kindAt_17 (Nat.le_of_ble_eq_true rfl) (Nat.le_of_ble_eq_true rfl)
set_option maxHeartbeats 4000000 in
set_option maxRecDepth 100000 in
theorem con3_ownerAt (N : Nat) (g : Nat) (x1 : Int32) (hg : isP g) : ConI yX3_ownerAt cX3_ownerAt 2 .int rm3_ownerAt (fun E => [.ref (ea E g), .int x1]) (f3_ownerAt N g x1) := by
  refine conI_of (L := fun E => [(0, .ref (ea E g)), (1, .int x1)]) (by decide) (fun _ => Nat.le_of_ble_eq_true rfl) (fun _ => rfl) ?_
  intro l E σ p e s m args below meth c C hr hlocks
  unfold f3_ownerAt
  refine j_iload_n 1 C dX3_ownerAt_0 rfl rfl ?_
  refine j_callNI [.int x1] (con5_isCellIndex N x1) C mi5_isCellIndex ms5_isCellIndex lk3_131 rfl rfl ⟨Nat.le_of_ble_eq_true rfl, Nat.le_of_ble_eq_true rfl, Nat.le_of_ble_eq_true rfl, Nat.le_of_ble_eq_true rfl, Nat.le_of_ble_eq_true rfl⟩ dX3_ownerAt_1 (fun r1 σ1 => ?_)
  refine j_zeq 16 C dX3_ownerAt_4 (by decide) ?_ ?_
  · refine j_iconst (v := (-1)) (-1) C dX3_ownerAt_16 (by decide) ?_
    exact j_iret C hr hlocks rfl dX3_ownerAt_17 (Nat.le_of_ble_eq_true rfl) (Nat.le_of_ble_eq_true rfl)
  · refine j_aload_n 0 C dX3_ownerAt_7 rfl rfl ?_
    refine j_get 2 C fl3_22 (P_lt hg) (ct_P E hg _) rfl dX3_ownerAt_8 ?_
    refine j_iload_n 1 C dX3_ownerAt_11 rfl rfl ?_
    refine j_iald C (P_lt2 hg) (ct_P2 E hg _) dX3_ownerAt_12 ?_
    refine j_goto 17 C dX3_ownerAt_13 (by decide) ?_
    exact j_iret C hr hlocks rfl dX3_ownerAt_17 (Nat.le_of_ble_eq_true rfl) (Nat.le_of_ble_eq_true rfl)
set_option maxHeartbeats 4000000 in
set_option maxRecDepth 100000 in
theorem con3_rankOf (N : Nat) (g : Nat) (x1 : Int32) (hg : isP g) : ConI yX3_rankOf cX3_rankOf 2 .int rm3_rankOf (fun E => [.ref (ea E g), .int x1]) (f3_rankOf N g x1) := by
  refine conI_of (L := fun E => [(0, .ref (ea E g)), (1, .int x1)]) (by decide) (fun _ => Nat.le_of_ble_eq_true rfl) (fun _ => rfl) ?_
  intro l E σ p e s m args below meth c C hr hlocks
  unfold f3_rankOf
  refine j_iload_n 1 C dX3_rankOf_0 rfl rfl ?_
  refine j_callNI [.int x1] (con5_isStoryIndex N x1) C mi5_isStoryIndex ms5_isStoryIndex lk3_86 rfl rfl ⟨Nat.le_of_ble_eq_true rfl, Nat.le_of_ble_eq_true rfl, Nat.le_of_ble_eq_true rfl, Nat.le_of_ble_eq_true rfl, Nat.le_of_ble_eq_true rfl⟩ dX3_rankOf_1 (fun r1 σ1 => ?_)
  refine j_zeq 16 C dX3_rankOf_4 (by decide) ?_ ?_
  · refine j_iconst (v := (-1)) (-1) C dX3_rankOf_16 (by decide) ?_
    exact j_iret C hr hlocks rfl dX3_rankOf_17 (Nat.le_of_ble_eq_true rfl) (Nat.le_of_ble_eq_true rfl)
  · refine j_aload_n 0 C dX3_rankOf_7 rfl rfl ?_
    refine j_get 4 C fl3_28 (P_lt hg) (ct_P E hg _) rfl dX3_rankOf_8 ?_
    refine j_iload_n 1 C dX3_rankOf_11 rfl rfl ?_
    refine j_iald C (P_lt4 hg) (ct_P4 E hg _) dX3_rankOf_12 ?_
    refine j_goto 17 C dX3_rankOf_13 (by decide) ?_
    exact j_iret C hr hlocks rfl dX3_rankOf_17 (Nat.le_of_ble_eq_true rfl) (Nat.le_of_ble_eq_true rfl)
set_option maxHeartbeats 4000000 in
set_option maxRecDepth 100000 in
theorem con3_isLeftOut (N : Nat) (g : Nat) (x1 : Int32) (hg : isP g) : ConI yX3_isLeftOut cX3_isLeftOut 2 .boolean rm3_isLeftOut (fun E => [.ref (ea E g), .int x1]) (f3_isLeftOut N g x1) := by
  refine conI_of (L := fun E => [(0, .ref (ea E g)), (1, .int x1)]) (by decide) (fun _ => Nat.le_of_ble_eq_true rfl) (fun _ => rfl) ?_
  intro l E σ p e s m args below meth c C hr hlocks
  unfold f3_isLeftOut
  refine j_aload_n 0 C dX3_isLeftOut_0 rfl rfl ?_
  refine j_iload_n 1 C dX3_isLeftOut_1 rfl rfl ?_
  refine j_callVI [.int x1] (con3_partCountOf N g x1 hg) C mi3_partCountOf mv3_partCountOf lk3_147 (P_lt hg) (ct_P E hg _) rfl rfl rfl ⟨Nat.le_of_ble_eq_true rfl, Nat.le_of_ble_eq_true rfl, Nat.le_of_ble_eq_true rfl, Nat.le_of_ble_eq_true rfl, Nat.le_of_ble_eq_true rfl⟩ dX3_isLeftOut_2 (fun r2 σ2 => ?_)
  refine j_zne 12 C dX3_isLeftOut_5 (by decide) ?_ ?_
  · refine j_iconst (v := 0) 0 C dX3_isLeftOut_12 (by decide) ?_
    exact j_iret C hr hlocks rfl dX3_isLeftOut_13 (Nat.le_of_ble_eq_true rfl) (Nat.le_of_ble_eq_true rfl)
  · refine j_iconst (v := 1) 1 C dX3_isLeftOut_8 (by decide) ?_
    refine j_goto 13 C dX3_isLeftOut_9 (by decide) ?_
    exact j_iret C hr hlocks rfl dX3_isLeftOut_13 (Nat.le_of_ble_eq_true rfl) (Nat.le_of_ble_eq_true rfl)
set_option maxHeartbeats 4000000 in
set_option maxRecDepth 100000 in
theorem con3_startPageOf (N : Nat) (g : Nat) (x1 : Int32) (hg : isP g) : ConI yX3_startPageOf cX3_startPageOf 2 .int rm3_startPageOf (fun E => [.ref (ea E g), .int x1]) (f3_startPageOf N g x1) := by
  refine conI_of (L := fun E => [(0, .ref (ea E g)), (1, .int x1)]) (by decide) (fun _ => Nat.le_of_ble_eq_true rfl) (fun _ => rfl) ?_
  intro l E σ p e s m args below meth c C hr hlocks
  unfold f3_startPageOf
  refine j_aload_n 0 C dX3_startPageOf_0 rfl rfl ?_
  refine j_iload_n 1 C dX3_startPageOf_1 rfl rfl ?_
  refine j_callVI [.int x1] (con3_partCountOf N g x1 hg) C mi3_partCountOf mv3_partCountOf lk3_147 (P_lt hg) (ct_P E hg _) rfl rfl rfl ⟨Nat.le_of_ble_eq_true rfl, Nat.le_of_ble_eq_true rfl, Nat.le_of_ble_eq_true rfl, Nat.le_of_ble_eq_true rfl, Nat.le_of_ble_eq_true rfl⟩ dX3_startPageOf_2 (fun r2 σ2 => ?_)
  refine j_zne 12 C dX3_startPageOf_5 (by decide) ?_ ?_
  · refine j_aload_n 0 C dX3_startPageOf_12 rfl rfl ?_
    refine j_iload_n 1 C dX3_startPageOf_13 rfl rfl ?_
    refine j_iconst (v := 0) 0 C dX3_startPageOf_14 (by decide) ?_
    refine j_iconst (v := 0) 0 C dX3_startPageOf_15 (by decide) ?_
    refine j_callVI [.int x1, .int 0, .int 0] (con3_partNumber N g x1 0 0 hg) C mi3_partNumber mv3_partNumber lk3_153 (P_lt hg) (ct_P E hg _) rfl rfl rfl ⟨Nat.le_of_ble_eq_true rfl, Nat.le_of_ble_eq_true rfl, Nat.le_of_ble_eq_true rfl, Nat.le_of_ble_eq_true rfl, Nat.le_of_ble_eq_true rfl⟩ dX3_startPageOf_16 (fun r16 σ16 => ?_)
    exact j_iret C hr hlocks rfl dX3_startPageOf_19 (Nat.le_of_ble_eq_true rfl) (Nat.le_of_ble_eq_true rfl)
  · refine j_iconst (v := (-1)) (-1) C dX3_startPageOf_8 (by decide) ?_
    refine j_goto 19 C dX3_startPageOf_9 (by decide) ?_
    exact j_iret C hr hlocks rfl dX3_startPageOf_19 (Nat.le_of_ble_eq_true rfl) (Nat.le_of_ble_eq_true rfl)
set_option maxHeartbeats 4000000 in
set_option maxRecDepth 100000 in
theorem con3_startsOnOwnPage (N : Nat) (g : Nat) (x1 : Int32) (hg : isP g) : ConI yX3_startsOnOwnPage cX3_startsOnOwnPage 2 .boolean rm3_startsOnOwnPage (fun E => [.ref (ea E g), .int x1]) (f3_startsOnOwnPage N g x1) := by
  refine conI_of (L := fun E => [(0, .ref (ea E g)), (1, .int x1)]) (by decide) (fun _ => Nat.le_of_ble_eq_true rfl) (fun _ => rfl) ?_
  intro l E σ p e s m args below meth c C hr hlocks
  unfold f3_startsOnOwnPage
  refine j_aload_n 0 C dX3_startsOnOwnPage_0 rfl rfl ?_
  refine j_iload_n 1 C dX3_startsOnOwnPage_1 rfl rfl ?_
  refine j_callVI [.int x1] (con3_startPageOf N g x1 hg) C mi3_startPageOf mv3_startPageOf lk3_168 (P_lt hg) (ct_P E hg _) rfl rfl rfl ⟨Nat.le_of_ble_eq_true rfl, Nat.le_of_ble_eq_true rfl, Nat.le_of_ble_eq_true rfl, Nat.le_of_ble_eq_true rfl, Nat.le_of_ble_eq_true rfl⟩ dX3_startsOnOwnPage_2 (fun r2 σ2 => ?_)
  refine j_aload_n 0 C dX3_startsOnOwnPage_5 rfl rfl ?_
  refine j_get 0 C fl3_12 (P_lt hg) (ct_P E hg _) rfl dX3_startsOnOwnPage_6 ?_
  refine j_iload_n 1 C dX3_startsOnOwnPage_9 rfl rfl ?_
  refine j_iconst (v := 0) 0 C dX3_startsOnOwnPage_10 (by decide) ?_
  refine j_callVI [.int x1, .int 0] (con1_storyNumber N (edOf g) x1 0 (isE_ed hg)) C mi1_storyNumber mv1_storyNumber lk3_96 (E_lt (isE_ed hg)) (ct_E E (isE_ed hg) _) rfl rfl rfl ⟨Nat.le_of_ble_eq_true rfl, Nat.le_of_ble_eq_true rfl, Nat.le_of_ble_eq_true rfl, Nat.le_of_ble_eq_true rfl, Nat.le_of_ble_eq_true rfl⟩ dX3_startsOnOwnPage_11 (fun r11 σ11 => ?_)
  refine j_ine 21 C dX3_startsOnOwnPage_14 (by decide) ?_ ?_
  · refine j_iconst (v := 0) 0 C dX3_startsOnOwnPage_21 (by decide) ?_
    exact j_iret C hr hlocks rfl dX3_startsOnOwnPage_22 (Nat.le_of_ble_eq_true rfl) (Nat.le_of_ble_eq_true rfl)
  · refine j_iconst (v := 1) 1 C dX3_startsOnOwnPage_17 (by decide) ?_
    refine j_goto 22 C dX3_startsOnOwnPage_18 (by decide) ?_
    exact j_iret C hr hlocks rfl dX3_startsOnOwnPage_22 (Nat.le_of_ble_eq_true rfl) (Nat.le_of_ble_eq_true rfl)
set_option maxHeartbeats 4000000 in
set_option maxRecDepth 100000 in
theorem con3_isBumped (N : Nat) (g : Nat) (x1 : Int32) (hg : isP g) : ConI yX3_isBumped cX3_isBumped 2 .boolean rm3_isBumped (fun E => [.ref (ea E g), .int x1]) (f3_isBumped N g x1) := by
  refine conI_of (L := fun E => [(0, .ref (ea E g)), (1, .int x1)]) (by decide) (fun _ => Nat.le_of_ble_eq_true rfl) (fun _ => rfl) ?_
  intro l E σ p e s m args below meth c C hr hlocks
  unfold f3_isBumped
  refine j_aload_n 0 C dX3_isBumped_0 rfl rfl ?_
  refine j_iload_n 1 C dX3_isBumped_1 rfl rfl ?_
  refine j_callVI [.int x1] (con3_isLeftOut N g x1 hg) C mi3_isLeftOut mv3_isLeftOut lk3_171 (P_lt hg) (ct_P E hg _) rfl rfl rfl ⟨Nat.le_of_ble_eq_true rfl, Nat.le_of_ble_eq_true rfl, Nat.le_of_ble_eq_true rfl, Nat.le_of_ble_eq_true rfl, Nat.le_of_ble_eq_true rfl⟩ dX3_isBumped_2 (fun r2 σ2 => ?_)
  refine j_zne 20 C dX3_isBumped_5 (by decide) ?_ ?_
  · refine j_iconst (v := 0) 0 C dX3_isBumped_20 (by decide) ?_
    exact j_iret C hr hlocks rfl dX3_isBumped_21 (Nat.le_of_ble_eq_true rfl) (Nat.le_of_ble_eq_true rfl)
  · refine j_aload_n 0 C dX3_isBumped_8 rfl rfl ?_
    refine j_iload_n 1 C dX3_isBumped_9 rfl rfl ?_
    refine j_callVI [.int x1] (con3_startsOnOwnPage N g x1 hg) C mi3_startsOnOwnPage mv3_startsOnOwnPage lk3_174 (P_lt hg) (ct_P E hg _) rfl rfl rfl ⟨Nat.le_of_ble_eq_true rfl, Nat.le_of_ble_eq_true rfl, Nat.le_of_ble_eq_true rfl, Nat.le_of_ble_eq_true rfl, Nat.le_of_ble_eq_true rfl⟩ dX3_isBumped_10 (fun r10 σ10 => ?_)
    refine j_zne 20 C dX3_isBumped_13 (by decide) ?_ ?_
    · refine j_iconst (v := 0) 0 C dX3_isBumped_20 (by decide) ?_
      exact j_iret C hr hlocks rfl dX3_isBumped_21 (Nat.le_of_ble_eq_true rfl) (Nat.le_of_ble_eq_true rfl)
    · refine j_iconst (v := 1) 1 C dX3_isBumped_16 (by decide) ?_
      refine j_goto 21 C dX3_isBumped_17 (by decide) ?_
      exact j_iret C hr hlocks rfl dX3_isBumped_21 (Nat.le_of_ble_eq_true rfl) (Nat.le_of_ble_eq_true rfl)
set_option maxHeartbeats 4000000 in
set_option maxRecDepth 100000 in
theorem con3_linesAtStart (N : Nat) (g : Nat) (x1 : Int32) (hg : isP g) : ConI yX3_linesAtStart cX3_linesAtStart 3 .int rm3_linesAtStart (fun E => [.ref (ea E g), .int x1]) (f3_linesAtStart N g x1) := by
  refine conI_of (L := fun E => [(0, .ref (ea E g)), (1, .int x1)]) (by decide) (fun _ => Nat.le_of_ble_eq_true rfl) (fun _ => rfl) ?_
  intro l E σ p e s m args below meth c C hr hlocks
  have wJ17 : ∀ (y0 : Int32) (σ : Hp), J E 3 p l e rm3_linesAtStart s m args below meth c (QI E below args s rm3_linesAtStart.cells rm3_linesAtStart.slots) (f3_linesAtStart_J17 N g x1 y0 σ) 17 [(0, .ref (ea E g)), (1, .int x1)] [.int y0] σ 0 0 := by
    intro y0 σ
    unfold f3_linesAtStart_J17
    refine j_istore_n [(2, .int y0), (0, .ref (ea E g)), (1, .int x1)] C dX3_linesAtStart_17 rfl (by decide) rfl ?_
    refine j_aload_n 1 C dX3_linesAtStart_18 rfl rfl ?_
    refine j_get 0 C fl3_12 (P_lt hg) (ct_P E hg _) rfl dX3_linesAtStart_19 ?_
    refine j_iload_n 2 C dX3_linesAtStart_22 rfl rfl ?_
    refine j_iconst (v := 1) 1 C dX3_linesAtStart_23 (by decide) ?_
    refine j_callVI [.int x1, .int 1] (con1_storyNumber N (edOf g) x1 1 (isE_ed hg)) C mi1_storyNumber mv1_storyNumber lk3_96 (E_lt (isE_ed hg)) (ct_E E (isE_ed hg) _) rfl rfl rfl ⟨Nat.le_of_ble_eq_true rfl, Nat.le_of_ble_eq_true rfl, Nat.le_of_ble_eq_true rfl, Nat.le_of_ble_eq_true rfl, Nat.le_of_ble_eq_true rfl⟩ dX3_linesAtStart_24 (fun r24 σ24 => ?_)
    refine j_iload_n 0 C dX3_linesAtStart_27 rfl rfl ?_
    refine j_imul C dX3_linesAtStart_28 ?_
    exact j_iret C hr hlocks rfl dX3_linesAtStart_29 (Nat.le_of_ble_eq_true rfl) (Nat.le_of_ble_eq_true rfl)
  unfold f3_linesAtStart
  refine j_iload_n 1 C dX3_linesAtStart_0 rfl rfl ?_
  refine j_callNI [.int x1] (con5_isStoryIndex N x1) C mi5_isStoryIndex ms5_isStoryIndex lk3_86 rfl rfl ⟨Nat.le_of_ble_eq_true rfl, Nat.le_of_ble_eq_true rfl, Nat.le_of_ble_eq_true rfl, Nat.le_of_ble_eq_true rfl, Nat.le_of_ble_eq_true rfl⟩ dX3_linesAtStart_1 (fun r1 σ1 => ?_)
  refine j_zeq 16 C dX3_linesAtStart_4 (by decide) ?_ ?_
  · refine j_iconst (v := 0) 0 C dX3_linesAtStart_16 (by decide) ?_
    exact j_sub [0, 1] rfl (wJ17 0 σ1)
  · refine j_aload_n 0 C dX3_linesAtStart_7 rfl rfl ?_
    refine j_get 8 C fl3_40 (P_lt hg) (ct_P E hg _) rfl dX3_linesAtStart_8 ?_
    refine j_iload_n 1 C dX3_linesAtStart_11 rfl rfl ?_
    refine j_iald C (P_lt8 hg) (ct_P8 E hg _) dX3_linesAtStart_12 ?_
    refine j_goto 17 C dX3_linesAtStart_13 (by decide) ?_
    exact j_sub [0, 1] rfl (wJ17 (σ1 (g + 8) x1.toNatClampNeg) σ1)
set_option maxHeartbeats 4000000 in
set_option maxRecDepth 100000 in
theorem con3_leftOutCount (N : Nat) (g : Nat) (hg : isP g) : ConI yX3_leftOutCount cX3_leftOutCount 3 .int rm3_leftOutCount (fun E => [.ref (ea E g)]) (f3_leftOutCount N g) := by
  refine conI_of (L := fun E => [(0, .ref (ea E g))]) (by decide) (fun _ => Nat.le_of_ble_eq_true rfl) (fun _ => rfl) ?_
  intro l E σ p e s m args below meth c C hr hlocks
  have wL4 : ∀ (K4 : Int32 → Hp → Option (Int32 × Hp)), (∀ (x1 : Int32) (σ : Hp), J E 3 p l e rm3_leftOutCount s m args below meth c (QI E below args s rm3_leftOutCount.cells rm3_leftOutCount.slots) (K4 x1 σ) 38 [(1, .int x1)] [] σ 0 0) → ∀ (n4 : Nat) (x1 : Int32) (x2 : Int32) (σ : Hp), J E 3 p l e rm3_leftOutCount s m args below meth c (QI E below args s rm3_leftOutCount.cells rm3_leftOutCount.slots) (f3_leftOutCount_L4 N g K4 n4 x1 x2 σ) 4 [(0, .ref (ea E g)), (1, .int x1), (2, .int x2)] [] σ 0 0 := by
    intro K4 HK4 n4
    induction n4 with
    | zero => intro x1 x2 σ; exact j_none
    | succ n4 ih4 =>
      have wJ32 : ∀ (x1 : Int32) (x2 : Int32) (σ : Hp), J E 3 p l e rm3_leftOutCount s m args below meth c (QI E below args s rm3_leftOutCount.cells rm3_leftOutCount.slots) (f3_leftOutCount_J32 N g K4 (f3_leftOutCount_L4 N g K4 n4) x1 x2 σ) 32 [(0, .ref (ea E g)), (1, .int x1), (2, .int x2)] [] σ 0 0 := by
        intro x1 x2 σ
        unfold f3_leftOutCount_J32
        refine j_iinc 2 1 [(2, .int (x2 + 1)), (0, .ref (ea E g)), (1, .int x1)] C dX3_leftOutCount_32 rfl rfl (by decide) rfl ?_
        refine j_goto 4 C dX3_leftOutCount_35 (by decide) ?_
        exact j_sub [1, 2, 0] rfl (ih4 x1 (x2 + 1) σ)
      intro x1 x2 σ
      show J E 3 p l e rm3_leftOutCount s m args below meth c (QI E below args s rm3_leftOutCount.cells rm3_leftOutCount.slots) (f3_leftOutCount_B4 N g K4 (f3_leftOutCount_L4 N g K4 n4) x1 x2 σ) 4 [(0, .ref (ea E g)), (1, .int x1), (2, .int x2)] [] σ 0 0
      unfold f3_leftOutCount_B4
      refine j_iload_n 2 C dX3_leftOutCount_4 rfl rfl ?_
      refine j_bipush (v := 12) 12 C dX3_leftOutCount_5 (by decide) ?_
      refine j_ige 38 C dX3_leftOutCount_7 (by decide) ?_ ?_
      · exact j_sub [1] rfl (HK4 x1 σ)
      · refine j_aload_n 0 C dX3_leftOutCount_10 rfl rfl ?_
        refine j_get 0 C fl3_12 (P_lt hg) (ct_P E hg _) rfl dX3_leftOutCount_11 ?_
        refine j_iload_n 2 C dX3_leftOutCount_14 rfl rfl ?_
        refine j_callVI [.int x2] (con1_hasStory N (edOf g) x2 (isE_ed hg)) C mi1_hasStory mv1_hasStory lk3_83 (E_lt (isE_ed hg)) (ct_E E (isE_ed hg) _) rfl rfl rfl ⟨Nat.le_of_ble_eq_true rfl, Nat.le_of_ble_eq_true rfl, Nat.le_of_ble_eq_true rfl, Nat.le_of_ble_eq_true rfl, Nat.le_of_ble_eq_true rfl⟩ dX3_leftOutCount_15 (fun r15 σ15 => ?_)
        refine j_zeq 32 C dX3_leftOutCount_18 (by decide) ?_ ?_
        · exact j_sub [0, 1, 2] rfl (wJ32 x1 x2 σ15)
        · refine j_aload_n 0 C dX3_leftOutCount_21 rfl rfl ?_
          refine j_iload_n 2 C dX3_leftOutCount_22 rfl rfl ?_
          refine j_callVI [.int x2] (con3_isLeftOut N g x2 hg) C mi3_isLeftOut mv3_isLeftOut lk3_171 (P_lt hg) (ct_P E hg _) rfl rfl rfl ⟨Nat.le_of_ble_eq_true rfl, Nat.le_of_ble_eq_true rfl, Nat.le_of_ble_eq_true rfl, Nat.le_of_ble_eq_true rfl, Nat.le_of_ble_eq_true rfl⟩ dX3_leftOutCount_23 (fun r23 σ23 => ?_)
          refine j_zeq 32 C dX3_leftOutCount_26 (by decide) ?_ ?_
          · exact j_sub [0, 1, 2] rfl (wJ32 x1 x2 σ23)
          · refine j_iinc 1 1 [(1, .int (x1 + 1)), (0, .ref (ea E g)), (2, .int x2)] C dX3_leftOutCount_29 rfl rfl (by decide) rfl ?_
            exact j_sub [1, 0, 2] rfl (wJ32 (x1 + 1) x2 σ23)
  unfold f3_leftOutCount
  refine j_iconst (v := 0) 0 C dX3_leftOutCount_0 (by decide) ?_
  refine j_istore_n [(1, .int 0), (0, .ref (ea E g))] C dX3_leftOutCount_1 rfl (by decide) rfl ?_
  refine j_iconst (v := 0) 0 C dX3_leftOutCount_2 (by decide) ?_
  refine j_istore_n [(2, .int 0), (1, .int 0), (0, .ref (ea E g))] C dX3_leftOutCount_3 rfl (by decide) rfl ?_
  refine j_sub [2, 1, 0] rfl (wL4 _ (fun x1_4 σL4 => ?_) N 0 0 σ)
  refine j_iload_n 0 C dX3_leftOutCount_38 rfl rfl ?_
  exact j_iret C hr hlocks rfl dX3_leftOutCount_39 (Nat.le_of_ble_eq_true rfl) (Nat.le_of_ble_eq_true rfl)
set_option maxHeartbeats 4000000 in
set_option maxRecDepth 100000 in
theorem con3_bumpedCount (N : Nat) (g : Nat) (hg : isP g) : ConI yX3_bumpedCount cX3_bumpedCount 3 .int rm3_bumpedCount (fun E => [.ref (ea E g)]) (f3_bumpedCount N g) := by
  refine conI_of (L := fun E => [(0, .ref (ea E g))]) (by decide) (fun _ => Nat.le_of_ble_eq_true rfl) (fun _ => rfl) ?_
  intro l E σ p e s m args below meth c C hr hlocks
  have wL4 : ∀ (K4 : Int32 → Hp → Option (Int32 × Hp)), (∀ (x1 : Int32) (σ : Hp), J E 3 p l e rm3_bumpedCount s m args below meth c (QI E below args s rm3_bumpedCount.cells rm3_bumpedCount.slots) (K4 x1 σ) 38 [(1, .int x1)] [] σ 0 0) → ∀ (n4 : Nat) (x1 : Int32) (x2 : Int32) (σ : Hp), J E 3 p l e rm3_bumpedCount s m args below meth c (QI E below args s rm3_bumpedCount.cells rm3_bumpedCount.slots) (f3_bumpedCount_L4 N g K4 n4 x1 x2 σ) 4 [(0, .ref (ea E g)), (1, .int x1), (2, .int x2)] [] σ 0 0 := by
    intro K4 HK4 n4
    induction n4 with
    | zero => intro x1 x2 σ; exact j_none
    | succ n4 ih4 =>
      have wJ32 : ∀ (x1 : Int32) (x2 : Int32) (σ : Hp), J E 3 p l e rm3_bumpedCount s m args below meth c (QI E below args s rm3_bumpedCount.cells rm3_bumpedCount.slots) (f3_bumpedCount_J32 N g K4 (f3_bumpedCount_L4 N g K4 n4) x1 x2 σ) 32 [(0, .ref (ea E g)), (1, .int x1), (2, .int x2)] [] σ 0 0 := by
        intro x1 x2 σ
        unfold f3_bumpedCount_J32
        refine j_iinc 2 1 [(2, .int (x2 + 1)), (0, .ref (ea E g)), (1, .int x1)] C dX3_bumpedCount_32 rfl rfl (by decide) rfl ?_
        refine j_goto 4 C dX3_bumpedCount_35 (by decide) ?_
        exact j_sub [1, 2, 0] rfl (ih4 x1 (x2 + 1) σ)
      intro x1 x2 σ
      show J E 3 p l e rm3_bumpedCount s m args below meth c (QI E below args s rm3_bumpedCount.cells rm3_bumpedCount.slots) (f3_bumpedCount_B4 N g K4 (f3_bumpedCount_L4 N g K4 n4) x1 x2 σ) 4 [(0, .ref (ea E g)), (1, .int x1), (2, .int x2)] [] σ 0 0
      unfold f3_bumpedCount_B4
      refine j_iload_n 2 C dX3_bumpedCount_4 rfl rfl ?_
      refine j_bipush (v := 12) 12 C dX3_bumpedCount_5 (by decide) ?_
      refine j_ige 38 C dX3_bumpedCount_7 (by decide) ?_ ?_
      · exact j_sub [1] rfl (HK4 x1 σ)
      · refine j_aload_n 0 C dX3_bumpedCount_10 rfl rfl ?_
        refine j_get 0 C fl3_12 (P_lt hg) (ct_P E hg _) rfl dX3_bumpedCount_11 ?_
        refine j_iload_n 2 C dX3_bumpedCount_14 rfl rfl ?_
        refine j_callVI [.int x2] (con1_hasStory N (edOf g) x2 (isE_ed hg)) C mi1_hasStory mv1_hasStory lk3_83 (E_lt (isE_ed hg)) (ct_E E (isE_ed hg) _) rfl rfl rfl ⟨Nat.le_of_ble_eq_true rfl, Nat.le_of_ble_eq_true rfl, Nat.le_of_ble_eq_true rfl, Nat.le_of_ble_eq_true rfl, Nat.le_of_ble_eq_true rfl⟩ dX3_bumpedCount_15 (fun r15 σ15 => ?_)
        refine j_zeq 32 C dX3_bumpedCount_18 (by decide) ?_ ?_
        · exact j_sub [0, 1, 2] rfl (wJ32 x1 x2 σ15)
        · refine j_aload_n 0 C dX3_bumpedCount_21 rfl rfl ?_
          refine j_iload_n 2 C dX3_bumpedCount_22 rfl rfl ?_
          refine j_callVI [.int x2] (con3_isBumped N g x2 hg) C mi3_isBumped mv3_isBumped lk3_180 (P_lt hg) (ct_P E hg _) rfl rfl rfl ⟨Nat.le_of_ble_eq_true rfl, Nat.le_of_ble_eq_true rfl, Nat.le_of_ble_eq_true rfl, Nat.le_of_ble_eq_true rfl, Nat.le_of_ble_eq_true rfl⟩ dX3_bumpedCount_23 (fun r23 σ23 => ?_)
          refine j_zeq 32 C dX3_bumpedCount_26 (by decide) ?_ ?_
          · exact j_sub [0, 1, 2] rfl (wJ32 x1 x2 σ23)
          · refine j_iinc 1 1 [(1, .int (x1 + 1)), (0, .ref (ea E g)), (2, .int x2)] C dX3_bumpedCount_29 rfl rfl (by decide) rfl ?_
            exact j_sub [1, 0, 2] rfl (wJ32 (x1 + 1) x2 σ23)
  unfold f3_bumpedCount
  refine j_iconst (v := 0) 0 C dX3_bumpedCount_0 (by decide) ?_
  refine j_istore_n [(1, .int 0), (0, .ref (ea E g))] C dX3_bumpedCount_1 rfl (by decide) rfl ?_
  refine j_iconst (v := 0) 0 C dX3_bumpedCount_2 (by decide) ?_
  refine j_istore_n [(2, .int 0), (1, .int 0), (0, .ref (ea E g))] C dX3_bumpedCount_3 rfl (by decide) rfl ?_
  refine j_sub [2, 1, 0] rfl (wL4 _ (fun x1_4 σL4 => ?_) N 0 0 σ)
  refine j_iload_n 0 C dX3_bumpedCount_38 rfl rfl ?_
  exact j_iret C hr hlocks rfl dX3_bumpedCount_39 (Nat.le_of_ble_eq_true rfl) (Nat.le_of_ble_eq_true rfl)
set_option maxHeartbeats 4000000 in
set_option maxRecDepth 100000 in
theorem con3_jumpCount (N : Nat) (g : Nat) (hg : isP g) : ConI yX3_jumpCount cX3_jumpCount 4 .int rm3_jumpCount (fun E => [.ref (ea E g)]) (f3_jumpCount N g) := by
  refine conI_of (L := fun E => [(0, .ref (ea E g))]) (by decide) (fun _ => Nat.le_of_ble_eq_true rfl) (fun _ => rfl) ?_
  intro l E σ p e s m args below meth c C hr hlocks
  have wL4 : ∀ (K4 : Int32 → Hp → Option (Int32 × Hp)), (∀ (x1 : Int32) (σ : Hp), J E 4 p l e rm3_jumpCount s m args below meth c (QI E below args s rm3_jumpCount.cells rm3_jumpCount.slots) (K4 x1 σ) 44 [(1, .int x1)] [] σ 0 0) → ∀ (n4 : Nat) (x1 : Int32) (x2 : Int32) (σ : Hp), J E 4 p l e rm3_jumpCount s m args below meth c (QI E below args s rm3_jumpCount.cells rm3_jumpCount.slots) (f3_jumpCount_L4 N g K4 n4 x1 x2 σ) 4 [(0, .ref (ea E g)), (1, .int x1), (2, .int x2)] [] σ 0 0 := by
    intro K4 HK4 n4
    induction n4 with
    | zero => intro x1 x2 σ; exact j_none
    | succ n4 ih4 =>
      have wL12 : ∀ (x2 : Int32) (K12 : Int32 → Hp → Option (Int32 × Hp)), (∀ (x1 : Int32) (σ : Hp), J E 4 p l e rm3_jumpCount s m args below meth c (QI E below args s rm3_jumpCount.cells rm3_jumpCount.slots) (K12 x1 σ) 38 [(0, .ref (ea E g)), (1, .int x1), (2, .int x2)] [] σ 0 0) → ∀ (n12 : Nat) (x1 : Int32) (x3 : Int32) (σ : Hp), J E 4 p l e rm3_jumpCount s m args below meth c (QI E below args s rm3_jumpCount.cells rm3_jumpCount.slots) (f3_jumpCount_L12 N g K4 (f3_jumpCount_L4 N g K4 n4) x2 K12 n12 x1 x3 σ) 12 [(0, .ref (ea E g)), (1, .int x1), (2, .int x2), (3, .int x3)] [] σ 0 0 := by
        intro x2 K12 HK12 n12
        induction n12 with
        | zero => intro x1 x3 σ; exact j_none
        | succ n12 ih12 =>
          intro x1 x3 σ
          show J E 4 p l e rm3_jumpCount s m args below meth c (QI E below args s rm3_jumpCount.cells rm3_jumpCount.slots) (f3_jumpCount_B12 N g K4 (f3_jumpCount_L4 N g K4 n4) x2 K12 (f3_jumpCount_L12 N g K4 (f3_jumpCount_L4 N g K4 n4) x2 K12 n12) x1 x3 σ) 12 [(0, .ref (ea E g)), (1, .int x1), (2, .int x2), (3, .int x3)] [] σ 0 0
          unfold f3_jumpCount_B12
          refine j_iload_n 3 C dX3_jumpCount_12 rfl rfl ?_
          refine j_aload_n 0 C dX3_jumpCount_13 rfl rfl ?_
          refine j_iload_n 2 C dX3_jumpCount_14 rfl rfl ?_
          refine j_callVI [.int x2] (con3_partCountOf N g x2 hg) C mi3_partCountOf mv3_partCountOf lk3_147 (P_lt hg) (ct_P E hg _) rfl rfl rfl ⟨Nat.le_of_ble_eq_true rfl, Nat.le_of_ble_eq_true rfl, Nat.le_of_ble_eq_true rfl, Nat.le_of_ble_eq_true rfl, Nat.le_of_ble_eq_true rfl⟩ dX3_jumpCount_15 (fun r15 σ15 => ?_)
          refine j_ige 38 C dX3_jumpCount_18 (by decide) ?_ ?_
          · exact j_sub [0, 1, 2] rfl (HK12 x1 σ15)
          · refine j_iload_n 1 C dX3_jumpCount_21 rfl rfl ?_
            refine j_aload_n 0 C dX3_jumpCount_22 rfl rfl ?_
            refine j_iload_n 2 C dX3_jumpCount_23 rfl rfl ?_
            refine j_iload_n 3 C dX3_jumpCount_24 rfl rfl ?_
            refine j_bipush (v := 7) 7 C dX3_jumpCount_25 (by decide) ?_
            refine j_callVI [.int x2, .int x3, .int 7] (con3_partNumber N g x2 x3 7 hg) C mi3_partNumber mv3_partNumber lk3_153 (P_lt hg) (ct_P E hg _) rfl rfl rfl ⟨Nat.le_of_ble_eq_true rfl, Nat.le_of_ble_eq_true rfl, Nat.le_of_ble_eq_true rfl, Nat.le_of_ble_eq_true rfl, Nat.le_of_ble_eq_true rfl⟩ dX3_jumpCount_27 (fun r27 σ27 => ?_)
            refine j_iadd C dX3_jumpCount_30 ?_
            refine j_istore_n [(1, .int (x1 + r27)), (0, .ref (ea E g)), (2, .int x2), (3, .int x3)] C dX3_jumpCount_31 rfl (by decide) rfl ?_
            refine j_iinc 3 1 [(3, .int (x3 + 1)), (1, .int (x1 + r27)), (0, .ref (ea E g)), (2, .int x2)] C dX3_jumpCount_32 rfl rfl (by decide) rfl ?_
            refine j_goto 12 C dX3_jumpCount_35 (by decide) ?_
            exact j_sub [2, 1, 3, 0] rfl (ih12 (x1 + r27) (x3 + 1) σ27)
      intro x1 x2 σ
      show J E 4 p l e rm3_jumpCount s m args below meth c (QI E below args s rm3_jumpCount.cells rm3_jumpCount.slots) (f3_jumpCount_B4 N g K4 (f3_jumpCount_L4 N g K4 n4) x1 x2 σ) 4 [(0, .ref (ea E g)), (1, .int x1), (2, .int x2)] [] σ 0 0
      unfold f3_jumpCount_B4
      refine j_iload_n 2 C dX3_jumpCount_4 rfl rfl ?_
      refine j_bipush (v := 12) 12 C dX3_jumpCount_5 (by decide) ?_
      refine j_ige 44 C dX3_jumpCount_7 (by decide) ?_ ?_
      · exact j_sub [1] rfl (HK4 x1 σ)
      · refine j_iconst (v := 0) 0 C dX3_jumpCount_10 (by decide) ?_
        refine j_istore_n [(3, .int 0), (0, .ref (ea E g)), (1, .int x1), (2, .int x2)] C dX3_jumpCount_11 rfl (by decide) rfl ?_
        refine j_sub [1, 2, 3, 0] rfl (wL12 x2 _ (fun x1_12 σL12 => ?_) N x1 0 σ)
        refine j_iinc 2 1 [(2, .int (x2 + 1)), (0, .ref (ea E g)), (1, .int x1_12)] C dX3_jumpCount_38 rfl rfl (by decide) rfl ?_
        refine j_goto 4 C dX3_jumpCount_41 (by decide) ?_
        exact j_sub [1, 2, 0] rfl (ih4 x1_12 (x2 + 1) σL12)
  unfold f3_jumpCount
  refine j_iconst (v := 0) 0 C dX3_jumpCount_0 (by decide) ?_
  refine j_istore_n [(1, .int 0), (0, .ref (ea E g))] C dX3_jumpCount_1 rfl (by decide) rfl ?_
  refine j_iconst (v := 0) 0 C dX3_jumpCount_2 (by decide) ?_
  refine j_istore_n [(2, .int 0), (1, .int 0), (0, .ref (ea E g))] C dX3_jumpCount_3 rfl (by decide) rfl ?_
  refine j_sub [2, 1, 0] rfl (wL4 _ (fun x1_4 σL4 => ?_) N 0 0 σ)
  refine j_iload_n 0 C dX3_jumpCount_44 rfl rfl ?_
  exact j_iret C hr hlocks rfl dX3_jumpCount_45 (Nat.le_of_ble_eq_true rfl) (Nat.le_of_ble_eq_true rfl)
set_option maxHeartbeats 4000000 in
set_option maxRecDepth 100000 in
theorem con3_allLinesOnPages (N : Nat) (g : Nat) (hg : isP g) : ConI yX3_allLinesOnPages cX3_allLinesOnPages 3 .int rm3_allLinesOnPages (fun E => [.ref (ea E g)]) (f3_allLinesOnPages N g) := by
  refine conI_of (L := fun E => [(0, .ref (ea E g))]) (by decide) (fun _ => Nat.le_of_ble_eq_true rfl) (fun _ => rfl) ?_
  intro l E σ p e s m args below meth c C hr hlocks
  have wL4 : ∀ (K4 : Int32 → Hp → Option (Int32 × Hp)), (∀ (x1 : Int32) (σ : Hp), J E 3 p l e rm3_allLinesOnPages s m args below meth c (QI E below args s rm3_allLinesOnPages.cells rm3_allLinesOnPages.slots) (K4 x1 σ) 35 [(1, .int x1)] [] σ 0 0) → ∀ (n4 : Nat) (x1 : Int32) (x2 : Int32) (σ : Hp), J E 3 p l e rm3_allLinesOnPages s m args below meth c (QI E below args s rm3_allLinesOnPages.cells rm3_allLinesOnPages.slots) (f3_allLinesOnPages_L4 N g K4 n4 x1 x2 σ) 4 [(0, .ref (ea E g)), (1, .int x1), (2, .int x2)] [] σ 0 0 := by
    intro K4 HK4 n4
    induction n4 with
    | zero => intro x1 x2 σ; exact j_none
    | succ n4 ih4 =>
      have wJ29 : ∀ (x1 : Int32) (x2 : Int32) (σ : Hp), J E 3 p l e rm3_allLinesOnPages s m args below meth c (QI E below args s rm3_allLinesOnPages.cells rm3_allLinesOnPages.slots) (f3_allLinesOnPages_J29 N g K4 (f3_allLinesOnPages_L4 N g K4 n4) x1 x2 σ) 29 [(0, .ref (ea E g)), (1, .int x1), (2, .int x2)] [] σ 0 0 := by
        intro x1 x2 σ
        unfold f3_allLinesOnPages_J29
        refine j_iinc 2 1 [(2, .int (x2 + 1)), (0, .ref (ea E g)), (1, .int x1)] C dX3_allLinesOnPages_29 rfl rfl (by decide) rfl ?_
        refine j_goto 4 C dX3_allLinesOnPages_32 (by decide) ?_
        exact j_sub [1, 2, 0] rfl (ih4 x1 (x2 + 1) σ)
      intro x1 x2 σ
      show J E 3 p l e rm3_allLinesOnPages s m args below meth c (QI E below args s rm3_allLinesOnPages.cells rm3_allLinesOnPages.slots) (f3_allLinesOnPages_B4 N g K4 (f3_allLinesOnPages_L4 N g K4 n4) x1 x2 σ) 4 [(0, .ref (ea E g)), (1, .int x1), (2, .int x2)] [] σ 0 0
      unfold f3_allLinesOnPages_B4
      refine j_iload_n 2 C dX3_allLinesOnPages_4 rfl rfl ?_
      refine j_bipush (v := 12) 12 C dX3_allLinesOnPages_5 (by decide) ?_
      refine j_ige 35 C dX3_allLinesOnPages_7 (by decide) ?_ ?_
      · exact j_sub [1] rfl (HK4 x1 σ)
      · refine j_aload_n 0 C dX3_allLinesOnPages_10 rfl rfl ?_
        refine j_get 0 C fl3_12 (P_lt hg) (ct_P E hg _) rfl dX3_allLinesOnPages_11 ?_
        refine j_iload_n 2 C dX3_allLinesOnPages_14 rfl rfl ?_
        refine j_callVI [.int x2] (con1_hasStory N (edOf g) x2 (isE_ed hg)) C mi1_hasStory mv1_hasStory lk3_83 (E_lt (isE_ed hg)) (ct_E E (isE_ed hg) _) rfl rfl rfl ⟨Nat.le_of_ble_eq_true rfl, Nat.le_of_ble_eq_true rfl, Nat.le_of_ble_eq_true rfl, Nat.le_of_ble_eq_true rfl, Nat.le_of_ble_eq_true rfl⟩ dX3_allLinesOnPages_15 (fun r15 σ15 => ?_)
        refine j_zeq 29 C dX3_allLinesOnPages_18 (by decide) ?_ ?_
        · exact j_sub [0, 1, 2] rfl (wJ29 x1 x2 σ15)
        · refine j_iload_n 1 C dX3_allLinesOnPages_21 rfl rfl ?_
          refine j_aload_n 0 C dX3_allLinesOnPages_22 rfl rfl ?_
          refine j_iload_n 2 C dX3_allLinesOnPages_23 rfl rfl ?_
          refine j_callVI [.int x2] (con3_linesOnPages N g x2 hg) C mi3_linesOnPages mv3_linesOnPages lk3_177 (P_lt hg) (ct_P E hg _) rfl rfl rfl ⟨Nat.le_of_ble_eq_true rfl, Nat.le_of_ble_eq_true rfl, Nat.le_of_ble_eq_true rfl, Nat.le_of_ble_eq_true rfl, Nat.le_of_ble_eq_true rfl⟩ dX3_allLinesOnPages_24 (fun r24 σ24 => ?_)
          refine j_iadd C dX3_allLinesOnPages_27 ?_
          refine j_istore_n [(1, .int (x1 + r24)), (0, .ref (ea E g)), (2, .int x2)] C dX3_allLinesOnPages_28 rfl (by decide) rfl ?_
          exact j_sub [1, 0, 2] rfl (wJ29 (x1 + r24) x2 σ24)
  unfold f3_allLinesOnPages
  refine j_iconst (v := 0) 0 C dX3_allLinesOnPages_0 (by decide) ?_
  refine j_istore_n [(1, .int 0), (0, .ref (ea E g))] C dX3_allLinesOnPages_1 rfl (by decide) rfl ?_
  refine j_iconst (v := 0) 0 C dX3_allLinesOnPages_2 (by decide) ?_
  refine j_istore_n [(2, .int 0), (1, .int 0), (0, .ref (ea E g))] C dX3_allLinesOnPages_3 rfl (by decide) rfl ?_
  refine j_sub [2, 1, 0] rfl (wL4 _ (fun x1_4 σL4 => ?_) N 0 0 σ)
  refine j_iload_n 0 C dX3_allLinesOnPages_35 rfl rfl ?_
  exact j_iret C hr hlocks rfl dX3_allLinesOnPages_36 (Nat.le_of_ble_eq_true rfl) (Nat.le_of_ble_eq_true rfl)
set_option maxHeartbeats 4000000 in
set_option maxRecDepth 100000 in
theorem con3_allLinesCut (N : Nat) (g : Nat) (hg : isP g) : ConI yX3_allLinesCut cX3_allLinesCut 3 .int rm3_allLinesCut (fun E => [.ref (ea E g)]) (f3_allLinesCut N g) := by
  refine conI_of (L := fun E => [(0, .ref (ea E g))]) (by decide) (fun _ => Nat.le_of_ble_eq_true rfl) (fun _ => rfl) ?_
  intro l E σ p e s m args below meth c C hr hlocks
  have wL4 : ∀ (K4 : Int32 → Hp → Option (Int32 × Hp)), (∀ (x1 : Int32) (σ : Hp), J E 3 p l e rm3_allLinesCut s m args below meth c (QI E below args s rm3_allLinesCut.cells rm3_allLinesCut.slots) (K4 x1 σ) 35 [(1, .int x1)] [] σ 0 0) → ∀ (n4 : Nat) (x1 : Int32) (x2 : Int32) (σ : Hp), J E 3 p l e rm3_allLinesCut s m args below meth c (QI E below args s rm3_allLinesCut.cells rm3_allLinesCut.slots) (f3_allLinesCut_L4 N g K4 n4 x1 x2 σ) 4 [(0, .ref (ea E g)), (1, .int x1), (2, .int x2)] [] σ 0 0 := by
    intro K4 HK4 n4
    induction n4 with
    | zero => intro x1 x2 σ; exact j_none
    | succ n4 ih4 =>
      have wJ29 : ∀ (x1 : Int32) (x2 : Int32) (σ : Hp), J E 3 p l e rm3_allLinesCut s m args below meth c (QI E below args s rm3_allLinesCut.cells rm3_allLinesCut.slots) (f3_allLinesCut_J29 N g K4 (f3_allLinesCut_L4 N g K4 n4) x1 x2 σ) 29 [(0, .ref (ea E g)), (1, .int x1), (2, .int x2)] [] σ 0 0 := by
        intro x1 x2 σ
        unfold f3_allLinesCut_J29
        refine j_iinc 2 1 [(2, .int (x2 + 1)), (0, .ref (ea E g)), (1, .int x1)] C dX3_allLinesCut_29 rfl rfl (by decide) rfl ?_
        refine j_goto 4 C dX3_allLinesCut_32 (by decide) ?_
        exact j_sub [1, 2, 0] rfl (ih4 x1 (x2 + 1) σ)
      intro x1 x2 σ
      show J E 3 p l e rm3_allLinesCut s m args below meth c (QI E below args s rm3_allLinesCut.cells rm3_allLinesCut.slots) (f3_allLinesCut_B4 N g K4 (f3_allLinesCut_L4 N g K4 n4) x1 x2 σ) 4 [(0, .ref (ea E g)), (1, .int x1), (2, .int x2)] [] σ 0 0
      unfold f3_allLinesCut_B4
      refine j_iload_n 2 C dX3_allLinesCut_4 rfl rfl ?_
      refine j_bipush (v := 12) 12 C dX3_allLinesCut_5 (by decide) ?_
      refine j_ige 35 C dX3_allLinesCut_7 (by decide) ?_ ?_
      · exact j_sub [1] rfl (HK4 x1 σ)
      · refine j_aload_n 0 C dX3_allLinesCut_10 rfl rfl ?_
        refine j_get 0 C fl3_12 (P_lt hg) (ct_P E hg _) rfl dX3_allLinesCut_11 ?_
        refine j_iload_n 2 C dX3_allLinesCut_14 rfl rfl ?_
        refine j_callVI [.int x2] (con1_hasStory N (edOf g) x2 (isE_ed hg)) C mi1_hasStory mv1_hasStory lk3_83 (E_lt (isE_ed hg)) (ct_E E (isE_ed hg) _) rfl rfl rfl ⟨Nat.le_of_ble_eq_true rfl, Nat.le_of_ble_eq_true rfl, Nat.le_of_ble_eq_true rfl, Nat.le_of_ble_eq_true rfl, Nat.le_of_ble_eq_true rfl⟩ dX3_allLinesCut_15 (fun r15 σ15 => ?_)
        refine j_zeq 29 C dX3_allLinesCut_18 (by decide) ?_ ?_
        · exact j_sub [0, 1, 2] rfl (wJ29 x1 x2 σ15)
        · refine j_iload_n 1 C dX3_allLinesCut_21 rfl rfl ?_
          refine j_aload_n 0 C dX3_allLinesCut_22 rfl rfl ?_
          refine j_iload_n 2 C dX3_allLinesCut_23 rfl rfl ?_
          refine j_callVI [.int x2] (con3_linesCut N g x2 hg) C mi3_linesCut mv3_linesCut lk3_144 (P_lt hg) (ct_P E hg _) rfl rfl rfl ⟨Nat.le_of_ble_eq_true rfl, Nat.le_of_ble_eq_true rfl, Nat.le_of_ble_eq_true rfl, Nat.le_of_ble_eq_true rfl, Nat.le_of_ble_eq_true rfl⟩ dX3_allLinesCut_24 (fun r24 σ24 => ?_)
          refine j_iadd C dX3_allLinesCut_27 ?_
          refine j_istore_n [(1, .int (x1 + r24)), (0, .ref (ea E g)), (2, .int x2)] C dX3_allLinesCut_28 rfl (by decide) rfl ?_
          exact j_sub [1, 0, 2] rfl (wJ29 (x1 + r24) x2 σ24)
  unfold f3_allLinesCut
  refine j_iconst (v := 0) 0 C dX3_allLinesCut_0 (by decide) ?_
  refine j_istore_n [(1, .int 0), (0, .ref (ea E g))] C dX3_allLinesCut_1 rfl (by decide) rfl ?_
  refine j_iconst (v := 0) 0 C dX3_allLinesCut_2 (by decide) ?_
  refine j_istore_n [(2, .int 0), (1, .int 0), (0, .ref (ea E g))] C dX3_allLinesCut_3 rfl (by decide) rfl ?_
  refine j_sub [2, 1, 0] rfl (wL4 _ (fun x1_4 σL4 => ?_) N 0 0 σ)
  refine j_iload_n 0 C dX3_allLinesCut_35 rfl rfl ?_
  exact j_iret C hr hlocks rfl dX3_allLinesCut_36 (Nat.le_of_ble_eq_true rfl) (Nat.le_of_ble_eq_true rfl)
set_option maxHeartbeats 4000000 in
set_option maxRecDepth 100000 in
theorem con3_cellsOfKind (N : Nat) (g : Nat) (x1 : Int32) (x2 : Int32) (hg : isP g) : ConI yX3_cellsOfKind cX3_cellsOfKind 5 .int rm3_cellsOfKind (fun E => [.ref (ea E g), .int x1, .int x2]) (f3_cellsOfKind N g x1 x2) := by
  refine conI_of (L := fun E => [(0, .ref (ea E g)), (1, .int x1), (2, .int x2)]) (by decide) (fun _ => Nat.le_of_ble_eq_true rfl) (fun _ => rfl) ?_
  intro l E σ p e s m args below meth c C hr hlocks
  have wL8 : ∀ (K8 : Int32 → Hp → Option (Int32 × Hp)), (∀ (x3 : Int32) (σ : Hp), J E 5 p l e rm3_cellsOfKind s m args below meth c (QI E below args s rm3_cellsOfKind.cells rm3_cellsOfKind.slots) (K8 x3 σ) 38 [(3, .int x3)] [] σ 0 0) → ∀ (n8 : Nat) (x3 : Int32) (x4 : Int32) (σ : Hp), J E 5 p l e rm3_cellsOfKind s m args below meth c (QI E below args s rm3_cellsOfKind.cells rm3_cellsOfKind.slots) (f3_cellsOfKind_L8 N g x1 x2 K8 n8 x3 x4 σ) 8 [(0, .ref (ea E g)), (1, .int x1), (2, .int x2), (3, .int x3), (4, .int x4)] [] σ 0 0 := by
    intro K8 HK8 n8
    induction n8 with
    | zero => intro x3 x4 σ; exact j_none
    | succ n8 ih8 =>
      have wJ32 : ∀ (x3 : Int32) (x4 : Int32) (σ : Hp), J E 5 p l e rm3_cellsOfKind s m args below meth c (QI E below args s rm3_cellsOfKind.cells rm3_cellsOfKind.slots) (f3_cellsOfKind_J32 N g x1 x2 K8 (f3_cellsOfKind_L8 N g x1 x2 K8 n8) x3 x4 σ) 32 [(0, .ref (ea E g)), (1, .int x1), (2, .int x2), (3, .int x3), (4, .int x4)] [] σ 0 0 := by
        intro x3 x4 σ
        unfold f3_cellsOfKind_J32
        refine j_iinc 4 1 [(4, .int (x4 + 1)), (0, .ref (ea E g)), (1, .int x1), (2, .int x2), (3, .int x3)] C dX3_cellsOfKind_32 rfl rfl (by decide) rfl ?_
        refine j_goto 8 C dX3_cellsOfKind_35 (by decide) ?_
        exact j_sub [1, 2, 3, 4, 0] rfl (ih8 x3 (x4 + 1) σ)
      intro x3 x4 σ
      show J E 5 p l e rm3_cellsOfKind s m args below meth c (QI E below args s rm3_cellsOfKind.cells rm3_cellsOfKind.slots) (f3_cellsOfKind_B8 N g x1 x2 K8 (f3_cellsOfKind_L8 N g x1 x2 K8 n8) x3 x4 σ) 8 [(0, .ref (ea E g)), (1, .int x1), (2, .int x2), (3, .int x3), (4, .int x4)] [] σ 0 0
      unfold f3_cellsOfKind_B8
      refine j_iload 4 C dX3_cellsOfKind_8 rfl ?_
      refine j_iload_n 1 C dX3_cellsOfKind_10 rfl rfl ?_
      refine j_iconst (v := 1) 1 C dX3_cellsOfKind_11 (by decide) ?_
      refine j_iadd C dX3_cellsOfKind_12 ?_
      refine j_bipush (v := 120) 120 C dX3_cellsOfKind_13 (by decide) ?_
      refine j_imul C dX3_cellsOfKind_15 ?_
      refine j_ige 38 C dX3_cellsOfKind_16 (by decide) ?_ ?_
      · exact j_sub [3] rfl (HK8 x3 σ)
      · refine j_aload_n 0 C dX3_cellsOfKind_19 rfl rfl ?_
        refine j_iload 4 C dX3_cellsOfKind_20 rfl ?_
        refine j_callVI [.int x4] (con3_kindAt N g x4 hg) C mi3_kindAt mv3_kindAt lk3_183 (P_lt hg) (ct_P E hg _) rfl rfl rfl ⟨Nat.le_of_ble_eq_true rfl, Nat.le_of_ble_eq_true rfl, Nat.le_of_ble_eq_true rfl, Nat.le_of_ble_eq_true rfl, Nat.le_of_ble_eq_true rfl⟩ dX3_cellsOfKind_22 (fun r22 σ22 => ?_)
        refine j_iload_n 2 C dX3_cellsOfKind_25 rfl rfl ?_
        refine j_ine 32 C dX3_cellsOfKind_26 (by decide) ?_ ?_
        · exact j_sub [0, 1, 2, 3, 4] rfl (wJ32 x3 x4 σ22)
        · refine j_iinc 3 1 [(3, .int (x3 + 1)), (0, .ref (ea E g)), (1, .int x1), (2, .int x2), (4, .int x4)] C dX3_cellsOfKind_29 rfl rfl (by decide) rfl ?_
          exact j_sub [1, 2, 3, 0, 4] rfl (wJ32 (x3 + 1) x4 σ22)
  unfold f3_cellsOfKind
  refine j_iconst (v := 0) 0 C dX3_cellsOfKind_0 (by decide) ?_
  refine j_istore_n [(3, .int 0), (0, .ref (ea E g)), (1, .int x1), (2, .int x2)] C dX3_cellsOfKind_1 rfl (by decide) rfl ?_
  refine j_iload_n 2 C dX3_cellsOfKind_2 rfl rfl ?_
  refine j_bipush (v := 120) 120 C dX3_cellsOfKind_3 (by decide) ?_
  refine j_imul C dX3_cellsOfKind_5 ?_
  refine j_istore [(4, .int (x1 * 120)), (3, .int 0), (0, .ref (ea E g)), (1, .int x1), (2, .int x2)] C dX3_cellsOfKind_6 (by decide) rfl ?_
  refine j_sub [2, 3, 4, 1, 0] rfl (wL8 _ (fun x3_8 σL8 => ?_) N 0 (x1 * 120) σ)
  refine j_iload_n 0 C dX3_cellsOfKind_38 rfl rfl ?_
  exact j_iret C hr hlocks rfl dX3_cellsOfKind_39 (Nat.le_of_ble_eq_true rfl) (Nat.le_of_ble_eq_true rfl)
set_option maxHeartbeats 4000000 in
set_option maxRecDepth 100000 in
theorem con3_usedCells (N : Nat) (g : Nat) (x1 : Int32) (x2 : Int32) (hg : isP g) : ConI yX3_usedCells cX3_usedCells 6 .int rm3_usedCells (fun E => [.ref (ea E g), .int x1, .int x2]) (f3_usedCells N g x1 x2) := by
  refine conI_of (L := fun E => [(0, .ref (ea E g)), (1, .int x1), (2, .int x2)]) (by decide) (fun _ => Nat.le_of_ble_eq_true rfl) (fun _ => rfl) ?_
  intro l E σ p e s m args below meth c C hr hlocks
  have wL5 : ∀ (K5 : Int32 → Hp → Option (Int32 × Hp)), (∀ (x3 : Int32) (σ : Hp), J E 6 p l e rm3_usedCells s m args below meth c (QI E below args s rm3_usedCells.cells rm3_usedCells.slots) (K5 x3 σ) 46 [(3, .int x3)] [] σ 0 0) → ∀ (n5 : Nat) (x3 : Int32) (x4 : Int32) (σ : Hp), J E 6 p l e rm3_usedCells s m args below meth c (QI E below args s rm3_usedCells.cells rm3_usedCells.slots) (f3_usedCells_L5 N g x1 x2 K5 n5 x3 x4 σ) 5 [(0, .ref (ea E g)), (1, .int x1), (2, .int x2), (3, .int x3), (4, .int x4)] [] σ 0 0 := by
    intro K5 HK5 n5
    induction n5 with
    | zero => intro x3 x4 σ; exact j_none
    | succ n5 ih5 =>
      have wJ40 : ∀ (x3 : Int32) (x4 : Int32) (σ : Hp), J E 6 p l e rm3_usedCells s m args below meth c (QI E below args s rm3_usedCells.cells rm3_usedCells.slots) (f3_usedCells_J40 N g x1 x2 K5 (f3_usedCells_L5 N g x1 x2 K5 n5) x3 x4 σ) 40 [(0, .ref (ea E g)), (1, .int x1), (2, .int x2), (3, .int x3), (4, .int x4)] [] σ 0 0 := by
        intro x3 x4 σ
        unfold f3_usedCells_J40
        refine j_iinc 4 1 [(4, .int (x4 + 1)), (0, .ref (ea E g)), (1, .int x1), (2, .int x2), (3, .int x3)] C dX3_usedCells_40 rfl rfl (by decide) rfl ?_
        refine j_goto 5 C dX3_usedCells_43 (by decide) ?_
        exact j_sub [1, 2, 3, 4, 0] rfl (ih5 x3 (x4 + 1) σ)
      intro x3 x4 σ
      show J E 6 p l e rm3_usedCells s m args below meth c (QI E below args s rm3_usedCells.cells rm3_usedCells.slots) (f3_usedCells_B5 N g x1 x2 K5 (f3_usedCells_L5 N g x1 x2 K5 n5) x3 x4 σ) 5 [(0, .ref (ea E g)), (1, .int x1), (2, .int x2), (3, .int x3), (4, .int x4)] [] σ 0 0
      unfold f3_usedCells_B5
      refine j_iload 4 C dX3_usedCells_5 rfl ?_
      refine j_bipush (v := 24) 24 C dX3_usedCells_7 (by decide) ?_
      refine j_ige 46 C dX3_usedCells_9 (by decide) ?_ ?_
      · exact j_sub [3] rfl (HK5 x3 σ)
      · refine j_aload_n 0 C dX3_usedCells_12 rfl rfl ?_
        refine j_iload_n 1 C dX3_usedCells_13 rfl rfl ?_
        refine j_iload_n 2 C dX3_usedCells_14 rfl rfl ?_
        refine j_iload 4 C dX3_usedCells_15 rfl ?_
        refine j_callNI [.int x1, .int x2, .int x4] (con5_cellIndex N x1 x2 x4) C mi5_cellIndex ms5_cellIndex lk3_72 rfl rfl ⟨Nat.le_of_ble_eq_true rfl, Nat.le_of_ble_eq_true rfl, Nat.le_of_ble_eq_true rfl, Nat.le_of_ble_eq_true rfl, Nat.le_of_ble_eq_true rfl⟩ dX3_usedCells_17 (fun r17 σ17 => ?_)
        refine j_callVI [.int r17] (con3_kindAt N g r17 hg) C mi3_kindAt mv3_kindAt lk3_183 (P_lt hg) (ct_P E hg _) rfl rfl rfl ⟨Nat.le_of_ble_eq_true rfl, Nat.le_of_ble_eq_true rfl, Nat.le_of_ble_eq_true rfl, Nat.le_of_ble_eq_true rfl, Nat.le_of_ble_eq_true rfl⟩ dX3_usedCells_20 (fun r20 σ20 => ?_)
        refine j_istore [(5, .int r20), (0, .ref (ea E g)), (1, .int x1), (2, .int x2), (3, .int x3), (4, .int x4)] C dX3_usedCells_23 (by decide) rfl ?_
        refine j_iload 0 C dX3_usedCells_25 rfl ?_
        refine j_zeq 40 C dX3_usedCells_27 (by decide) ?_ ?_
        · exact j_sub [1, 2, 3, 4, 5] rfl (wJ40 x3 x4 σ20)
        · refine j_iload 0 C dX3_usedCells_30 rfl ?_
          refine j_bipush (v := 8) 8 C dX3_usedCells_32 (by decide) ?_
          refine j_ieq 40 C dX3_usedCells_34 (by decide) ?_ ?_
          · exact j_sub [1, 2, 3, 4, 5] rfl (wJ40 x3 x4 σ20)
          · refine j_iinc 4 1 [(3, .int (x3 + 1)), (5, .int r20), (0, .ref (ea E g)), (1, .int x1), (2, .int x2), (4, .int x4)] C dX3_usedCells_37 rfl rfl (by decide) rfl ?_
            exact j_sub [2, 3, 4, 0, 5] rfl (wJ40 (x3 + 1) x4 σ20)
  unfold f3_usedCells
  refine j_iconst (v := 0) 0 C dX3_usedCells_0 (by decide) ?_
  refine j_istore_n [(3, .int 0), (0, .ref (ea E g)), (1, .int x1), (2, .int x2)] C dX3_usedCells_1 rfl (by decide) rfl ?_
  refine j_iconst (v := 0) 0 C dX3_usedCells_2 (by decide) ?_
  refine j_istore [(4, .int 0), (3, .int 0), (0, .ref (ea E g)), (1, .int x1), (2, .int x2)] C dX3_usedCells_3 (by decide) rfl ?_
  refine j_sub [2, 3, 4, 1, 0] rfl (wL5 _ (fun x3_5 σL5 => ?_) N 0 0 σ)
  refine j_iload_n 0 C dX3_usedCells_46 rfl rfl ?_
  exact j_iret C hr hlocks rfl dX3_usedCells_47 (Nat.le_of_ble_eq_true rfl) (Nat.le_of_ble_eq_true rfl)
set_option maxHeartbeats 4000000 in
set_option maxRecDepth 100000 in
theorem con3_cellsNotFree (N : Nat) (g : Nat) (hg : isP g) : ConI yX3_cellsNotFree cX3_cellsNotFree 3 .int rm3_cellsNotFree (fun E => [.ref (ea E g)]) (f3_cellsNotFree N g) := by
  refine conI_of (L := fun E => [(0, .ref (ea E g))]) (by decide) (fun _ => Nat.le_of_ble_eq_true rfl) (fun _ => rfl) ?_
  intro l E σ p e s m args below meth c C hr hlocks
  have wL4 : ∀ (K4 : Int32 → Hp → Option (Int32 × Hp)), (∀ (x1 : Int32) (σ : Hp), J E 3 p l e rm3_cellsNotFree s m args below meth c (QI E below args s rm3_cellsNotFree.cells rm3_cellsNotFree.slots) (K4 x1 σ) 27 [(1, .int x1)] [] σ 0 0) → ∀ (n4 : Nat) (x1 : Int32) (x2 : Int32) (σ : Hp), J E 3 p l e rm3_cellsNotFree s m args below meth c (QI E below args s rm3_cellsNotFree.cells rm3_cellsNotFree.slots) (f3_cellsNotFree_L4 N g K4 n4 x1 x2 σ) 4 [(0, .ref (ea E g)), (1, .int x1), (2, .int x2)] [] σ 0 0 := by
    intro K4 HK4 n4
    induction n4 with
    | zero => intro x1 x2 σ; exact j_none
    | succ n4 ih4 =>
      intro x1 x2 σ
      show J E 3 p l e rm3_cellsNotFree s m args below meth c (QI E below args s rm3_cellsNotFree.cells rm3_cellsNotFree.slots) (f3_cellsNotFree_B4 N g K4 (f3_cellsNotFree_L4 N g K4 n4) x1 x2 σ) 4 [(0, .ref (ea E g)), (1, .int x1), (2, .int x2)] [] σ 0 0
      unfold f3_cellsNotFree_B4
      refine j_iload_n 2 C dX3_cellsNotFree_4 rfl rfl ?_
      refine j_iconst (v := 4) 4 C dX3_cellsNotFree_5 (by decide) ?_
      refine j_ige 27 C dX3_cellsNotFree_6 (by decide) ?_ ?_
      · exact j_sub [1] rfl (HK4 x1 σ)
      · refine j_iload_n 1 C dX3_cellsNotFree_9 rfl rfl ?_
        refine j_bipush (v := 120) 120 C dX3_cellsNotFree_10 (by decide) ?_
        refine j_aload_n 0 C dX3_cellsNotFree_12 rfl rfl ?_
        refine j_iload_n 2 C dX3_cellsNotFree_13 rfl rfl ?_
        refine j_iconst (v := 0) 0 C dX3_cellsNotFree_14 (by decide) ?_
        refine j_callVI [.int x2, .int 0] (con3_cellsOfKind N g x2 0 hg) C mi3_cellsOfKind mv3_cellsOfKind lk3_186 (P_lt hg) (ct_P E hg _) rfl rfl rfl ⟨Nat.le_of_ble_eq_true rfl, Nat.le_of_ble_eq_true rfl, Nat.le_of_ble_eq_true rfl, Nat.le_of_ble_eq_true rfl, Nat.le_of_ble_eq_true rfl⟩ dX3_cellsNotFree_15 (fun r15 σ15 => ?_)
        refine j_isub C dX3_cellsNotFree_18 ?_
        refine j_iadd C dX3_cellsNotFree_19 ?_
        refine j_istore_n [(1, .int (x1 + (120 - r15))), (0, .ref (ea E g)), (2, .int x2)] C dX3_cellsNotFree_20 rfl (by decide) rfl ?_
        refine j_iinc 2 1 [(2, .int (x2 + 1)), (1, .int (x1 + (120 - r15))), (0, .ref (ea E g))] C dX3_cellsNotFree_21 rfl rfl (by decide) rfl ?_
        refine j_goto 4 C dX3_cellsNotFree_24 (by decide) ?_
        exact j_sub [2, 1, 0] rfl (ih4 (x1 + (120 - r15)) (x2 + 1) σ15)
  unfold f3_cellsNotFree
  refine j_iconst (v := 0) 0 C dX3_cellsNotFree_0 (by decide) ?_
  refine j_istore_n [(1, .int 0), (0, .ref (ea E g))] C dX3_cellsNotFree_1 rfl (by decide) rfl ?_
  refine j_iconst (v := 0) 0 C dX3_cellsNotFree_2 (by decide) ?_
  refine j_istore_n [(2, .int 0), (1, .int 0), (0, .ref (ea E g))] C dX3_cellsNotFree_3 rfl (by decide) rfl ?_
  refine j_sub [2, 1, 0] rfl (wL4 _ (fun x1_4 σL4 => ?_) N 0 0 σ)
  refine j_iload_n 0 C dX3_cellsNotFree_27 rfl rfl ?_
  exact j_iret C hr hlocks rfl dX3_cellsNotFree_28 (Nat.le_of_ble_eq_true rfl) (Nat.le_of_ble_eq_true rfl)
set_option maxHeartbeats 4000000 in
set_option maxRecDepth 100000 in
theorem con3_cellsOfParts (N : Nat) (g : Nat) (hg : isP g) : ConI yX3_cellsOfParts cX3_cellsOfParts 4 .int rm3_cellsOfParts (fun E => [.ref (ea E g)]) (f3_cellsOfParts N g) := by
  refine conI_of (L := fun E => [(0, .ref (ea E g))]) (by decide) (fun _ => Nat.le_of_ble_eq_true rfl) (fun _ => rfl) ?_
  intro l E σ p e s m args below meth c C hr hlocks
  have wL4 : ∀ (K4 : Int32 → Hp → Option (Int32 × Hp)), (∀ (x1 : Int32) (σ : Hp), J E 4 p l e rm3_cellsOfParts s m args below meth c (QI E below args s rm3_cellsOfParts.cells rm3_cellsOfParts.slots) (K4 x1 σ) 51 [(1, .int x1)] [] σ 0 0) → ∀ (n4 : Nat) (x1 : Int32) (x2 : Int32) (σ : Hp), J E 4 p l e rm3_cellsOfParts s m args below meth c (QI E below args s rm3_cellsOfParts.cells rm3_cellsOfParts.slots) (f3_cellsOfParts_L4 N g K4 n4 x1 x2 σ) 4 [(0, .ref (ea E g)), (1, .int x1), (2, .int x2)] [] σ 0 0 := by
    intro K4 HK4 n4
    induction n4 with
    | zero => intro x1 x2 σ; exact j_none
    | succ n4 ih4 =>
      have wL12 : ∀ (x2 : Int32) (K12 : Int32 → Hp → Option (Int32 × Hp)), (∀ (x1 : Int32) (σ : Hp), J E 4 p l e rm3_cellsOfParts s m args below meth c (QI E below args s rm3_cellsOfParts.cells rm3_cellsOfParts.slots) (K12 x1 σ) 45 [(0, .ref (ea E g)), (1, .int x1), (2, .int x2)] [] σ 0 0) → ∀ (n12 : Nat) (x1 : Int32) (x3 : Int32) (σ : Hp), J E 4 p l e rm3_cellsOfParts s m args below meth c (QI E below args s rm3_cellsOfParts.cells rm3_cellsOfParts.slots) (f3_cellsOfParts_L12 N g K4 (f3_cellsOfParts_L4 N g K4 n4) x2 K12 n12 x1 x3 σ) 12 [(0, .ref (ea E g)), (1, .int x1), (2, .int x2), (3, .int x3)] [] σ 0 0 := by
        intro x2 K12 HK12 n12
        induction n12 with
        | zero => intro x1 x3 σ; exact j_none
        | succ n12 ih12 =>
          intro x1 x3 σ
          show J E 4 p l e rm3_cellsOfParts s m args below meth c (QI E below args s rm3_cellsOfParts.cells rm3_cellsOfParts.slots) (f3_cellsOfParts_B12 N g K4 (f3_cellsOfParts_L4 N g K4 n4) x2 K12 (f3_cellsOfParts_L12 N g K4 (f3_cellsOfParts_L4 N g K4 n4) x2 K12 n12) x1 x3 σ) 12 [(0, .ref (ea E g)), (1, .int x1), (2, .int x2), (3, .int x3)] [] σ 0 0
          unfold f3_cellsOfParts_B12
          refine j_iload_n 3 C dX3_cellsOfParts_12 rfl rfl ?_
          refine j_aload_n 0 C dX3_cellsOfParts_13 rfl rfl ?_
          refine j_iload_n 2 C dX3_cellsOfParts_14 rfl rfl ?_
          refine j_callVI [.int x2] (con3_partCountOf N g x2 hg) C mi3_partCountOf mv3_partCountOf lk3_147 (P_lt hg) (ct_P E hg _) rfl rfl rfl ⟨Nat.le_of_ble_eq_true rfl, Nat.le_of_ble_eq_true rfl, Nat.le_of_ble_eq_true rfl, Nat.le_of_ble_eq_true rfl, Nat.le_of_ble_eq_true rfl⟩ dX3_cellsOfParts_15 (fun r15 σ15 => ?_)
          refine j_ige 45 C dX3_cellsOfParts_18 (by decide) ?_ ?_
          · exact j_sub [0, 1, 2] rfl (HK12 x1 σ15)
          · refine j_iload_n 1 C dX3_cellsOfParts_21 rfl rfl ?_
            refine j_aload_n 0 C dX3_cellsOfParts_22 rfl rfl ?_
            refine j_iload_n 2 C dX3_cellsOfParts_23 rfl rfl ?_
            refine j_iload_n 3 C dX3_cellsOfParts_24 rfl rfl ?_
            refine j_iconst (v := 3) 3 C dX3_cellsOfParts_25 (by decide) ?_
            refine j_callVI [.int x2, .int x3, .int 3] (con3_partNumber N g x2 x3 3 hg) C mi3_partNumber mv3_partNumber lk3_153 (P_lt hg) (ct_P E hg _) rfl rfl rfl ⟨Nat.le_of_ble_eq_true rfl, Nat.le_of_ble_eq_true rfl, Nat.le_of_ble_eq_true rfl, Nat.le_of_ble_eq_true rfl, Nat.le_of_ble_eq_true rfl⟩ dX3_cellsOfParts_26 (fun r26 σ26 => ?_)
            refine j_aload_n 0 C dX3_cellsOfParts_29 rfl rfl ?_
            refine j_iload_n 2 C dX3_cellsOfParts_30 rfl rfl ?_
            refine j_iload_n 3 C dX3_cellsOfParts_31 rfl rfl ?_
            refine j_iconst (v := 4) 4 C dX3_cellsOfParts_32 (by decide) ?_
            refine j_callVI [.int x2, .int x3, .int 4] (con3_partNumber N g x2 x3 4 hg) C mi3_partNumber mv3_partNumber lk3_153 (P_lt hg) (ct_P E hg _) rfl rfl rfl ⟨Nat.le_of_ble_eq_true rfl, Nat.le_of_ble_eq_true rfl, Nat.le_of_ble_eq_true rfl, Nat.le_of_ble_eq_true rfl, Nat.le_of_ble_eq_true rfl⟩ dX3_cellsOfParts_33 (fun r33 σ33 => ?_)
            refine j_imul C dX3_cellsOfParts_36 ?_
            refine j_iadd C dX3_cellsOfParts_37 ?_
            refine j_istore_n [(1, .int (x1 + (r26 * r33))), (0, .ref (ea E g)), (2, .int x2), (3, .int x3)] C dX3_cellsOfParts_38 rfl (by decide) rfl ?_
            refine j_iinc 3 1 [(3, .int (x3 + 1)), (1, .int (x1 + (r26 * r33))), (0, .ref (ea E g)), (2, .int x2)] C dX3_cellsOfParts_39 rfl rfl (by decide) rfl ?_
            refine j_goto 12 C dX3_cellsOfParts_42 (by decide) ?_
            exact j_sub [2, 1, 3, 0] rfl (ih12 (x1 + (r26 * r33)) (x3 + 1) σ33)
      intro x1 x2 σ
      show J E 4 p l e rm3_cellsOfParts s m args below meth c (QI E below args s rm3_cellsOfParts.cells rm3_cellsOfParts.slots) (f3_cellsOfParts_B4 N g K4 (f3_cellsOfParts_L4 N g K4 n4) x1 x2 σ) 4 [(0, .ref (ea E g)), (1, .int x1), (2, .int x2)] [] σ 0 0
      unfold f3_cellsOfParts_B4
      refine j_iload_n 2 C dX3_cellsOfParts_4 rfl rfl ?_
      refine j_bipush (v := 12) 12 C dX3_cellsOfParts_5 (by decide) ?_
      refine j_ige 51 C dX3_cellsOfParts_7 (by decide) ?_ ?_
      · exact j_sub [1] rfl (HK4 x1 σ)
      · refine j_iconst (v := 0) 0 C dX3_cellsOfParts_10 (by decide) ?_
        refine j_istore_n [(3, .int 0), (0, .ref (ea E g)), (1, .int x1), (2, .int x2)] C dX3_cellsOfParts_11 rfl (by decide) rfl ?_
        refine j_sub [1, 2, 3, 0] rfl (wL12 x2 _ (fun x1_12 σL12 => ?_) N x1 0 σ)
        refine j_iinc 2 1 [(2, .int (x2 + 1)), (0, .ref (ea E g)), (1, .int x1_12)] C dX3_cellsOfParts_45 rfl rfl (by decide) rfl ?_
        refine j_goto 4 C dX3_cellsOfParts_48 (by decide) ?_
        exact j_sub [1, 2, 0] rfl (ih4 x1_12 (x2 + 1) σL12)
  unfold f3_cellsOfParts
  refine j_iconst (v := 0) 0 C dX3_cellsOfParts_0 (by decide) ?_
  refine j_istore_n [(1, .int 0), (0, .ref (ea E g))] C dX3_cellsOfParts_1 rfl (by decide) rfl ?_
  refine j_iconst (v := 0) 0 C dX3_cellsOfParts_2 (by decide) ?_
  refine j_istore_n [(2, .int 0), (1, .int 0), (0, .ref (ea E g))] C dX3_cellsOfParts_3 rfl (by decide) rfl ?_
  refine j_sub [2, 1, 0] rfl (wL4 _ (fun x1_4 σL4 => ?_) N 0 0 σ)
  refine j_iload_n 0 C dX3_cellsOfParts_51 rfl rfl ?_
  exact j_iret C hr hlocks rfl dX3_cellsOfParts_52 (Nat.le_of_ble_eq_true rfl) (Nat.le_of_ble_eq_true rfl)
set_option maxHeartbeats 4000000 in
set_option maxRecDepth 100000 in
theorem con3_hasSoundLines (N : Nat) (g : Nat) (x1 : Int32) (hg : isP g) : ConI yX3_hasSoundLines cX3_hasSoundLines 4 .boolean rm3_hasSoundLines (fun E => [.ref (ea E g), .int x1]) (f3_hasSoundLines N g x1) := by
  refine conI_of (L := fun E => [(0, .ref (ea E g)), (1, .int x1)]) (by decide) (fun _ => Nat.le_of_ble_eq_true rfl) (fun _ => rfl) ?_
  intro l E σ p e s m args below meth c C hr hlocks
  have wL4 : ∀ (K4 : Int32 → Hp → Option (Int32 × Hp)), (∀ (x2 : Int32) (σ : Hp), J E 4 p l e rm3_hasSoundLines s m args below meth c (QI E below args s rm3_hasSoundLines.cells rm3_hasSoundLines.slots) (K4 x2 σ) 29 [(0, .ref (ea E g)), (1, .int x1), (2, .int x2)] [] σ 0 0) → ∀ (n4 : Nat) (x2 : Int32) (x3 : Int32) (σ : Hp), J E 4 p l e rm3_hasSoundLines s m args below meth c (QI E below args s rm3_hasSoundLines.cells rm3_hasSoundLines.slots) (f3_hasSoundLines_L4 N g x1 K4 n4 x2 x3 σ) 4 [(0, .ref (ea E g)), (1, .int x1), (2, .int x2), (3, .int x3)] [] σ 0 0 := by
    intro K4 HK4 n4
    induction n4 with
    | zero => intro x2 x3 σ; exact j_none
    | succ n4 ih4 =>
      intro x2 x3 σ
      show J E 4 p l e rm3_hasSoundLines s m args below meth c (QI E below args s rm3_hasSoundLines.cells rm3_hasSoundLines.slots) (f3_hasSoundLines_B4 N g x1 K4 (f3_hasSoundLines_L4 N g x1 K4 n4) x2 x3 σ) 4 [(0, .ref (ea E g)), (1, .int x1), (2, .int x2), (3, .int x3)] [] σ 0 0
      unfold f3_hasSoundLines_B4
      refine j_iload_n 3 C dX3_hasSoundLines_4 rfl rfl ?_
      refine j_aload_n 0 C dX3_hasSoundLines_5 rfl rfl ?_
      refine j_iload_n 1 C dX3_hasSoundLines_6 rfl rfl ?_
      refine j_callVI [.int x1] (con3_partCountOf N g x1 hg) C mi3_partCountOf mv3_partCountOf lk3_147 (P_lt hg) (ct_P E hg _) rfl rfl rfl ⟨Nat.le_of_ble_eq_true rfl, Nat.le_of_ble_eq_true rfl, Nat.le_of_ble_eq_true rfl, Nat.le_of_ble_eq_true rfl, Nat.le_of_ble_eq_true rfl⟩ dX3_hasSoundLines_7 (fun r7 σ7 => ?_)
      refine j_ige 29 C dX3_hasSoundLines_10 (by decide) ?_ ?_
      · exact j_sub [0, 1, 2] rfl (HK4 x2 σ7)
      · refine j_iload_n 2 C dX3_hasSoundLines_13 rfl rfl ?_
        refine j_aload_n 0 C dX3_hasSoundLines_14 rfl rfl ?_
        refine j_iload_n 1 C dX3_hasSoundLines_15 rfl rfl ?_
        refine j_iload_n 3 C dX3_hasSoundLines_16 rfl rfl ?_
        refine j_iconst (v := 5) 5 C dX3_hasSoundLines_17 (by decide) ?_
        refine j_callVI [.int x1, .int x3, .int 5] (con3_partNumber N g x1 x3 5 hg) C mi3_partNumber mv3_partNumber lk3_153 (P_lt hg) (ct_P E hg _) rfl rfl rfl ⟨Nat.le_of_ble_eq_true rfl, Nat.le_of_ble_eq_true rfl, Nat.le_of_ble_eq_true rfl, Nat.le_of_ble_eq_true rfl, Nat.le_of_ble_eq_true rfl⟩ dX3_hasSoundLines_18 (fun r18 σ18 => ?_)
        refine j_iadd C dX3_hasSoundLines_21 ?_
        refine j_istore_n [(2, .int (x2 + r18)), (0, .ref (ea E g)), (1, .int x1), (3, .int x3)] C dX3_hasSoundLines_22 rfl (by decide) rfl ?_
        refine j_iinc 3 1 [(3, .int (x3 + 1)), (2, .int (x2 + r18)), (0, .ref (ea E g)), (1, .int x1)] C dX3_hasSoundLines_23 rfl rfl (by decide) rfl ?_
        refine j_goto 4 C dX3_hasSoundLines_26 (by decide) ?_
        exact j_sub [2, 3, 1, 0] rfl (ih4 (x2 + r18) (x3 + 1) σ18)
  unfold f3_hasSoundLines
  refine j_iconst (v := 0) 0 C dX3_hasSoundLines_0 (by decide) ?_
  refine j_istore_n [(2, .int 0), (0, .ref (ea E g)), (1, .int x1)] C dX3_hasSoundLines_1 rfl (by decide) rfl ?_
  refine j_iconst (v := 0) 0 C dX3_hasSoundLines_2 (by decide) ?_
  refine j_istore_n [(3, .int 0), (2, .int 0), (0, .ref (ea E g)), (1, .int x1)] C dX3_hasSoundLines_3 rfl (by decide) rfl ?_
  refine j_sub [2, 3, 1, 0] rfl (wL4 _ (fun x2_4 σL4 => ?_) N 0 0 σ)
  refine j_iload_n 2 C dX3_hasSoundLines_29 rfl rfl ?_
  refine j_aload_n 0 C dX3_hasSoundLines_30 rfl rfl ?_
  refine j_get 0 C fl3_12 (P_lt hg) (ct_P E hg _) rfl dX3_hasSoundLines_31 ?_
  refine j_iload_n 1 C dX3_hasSoundLines_34 rfl rfl ?_
  refine j_iconst (v := 3) 3 C dX3_hasSoundLines_35 (by decide) ?_
  refine j_callVI [.int x1, .int 3] (con1_storyNumber N (edOf g) x1 3 (isE_ed hg)) C mi1_storyNumber mv1_storyNumber lk3_96 (E_lt (isE_ed hg)) (ct_E E (isE_ed hg) _) rfl rfl rfl ⟨Nat.le_of_ble_eq_true rfl, Nat.le_of_ble_eq_true rfl, Nat.le_of_ble_eq_true rfl, Nat.le_of_ble_eq_true rfl, Nat.le_of_ble_eq_true rfl⟩ dX3_hasSoundLines_36 (fun r36 σ36 => ?_)
  refine j_aload_n 0 C dX3_hasSoundLines_39 rfl rfl ?_
  refine j_iload_n 1 C dX3_hasSoundLines_40 rfl rfl ?_
  refine j_callVI [.int x1] (con3_linesCut N g x1 hg) C mi3_linesCut mv3_linesCut lk3_144 (P_lt hg) (ct_P E hg _) rfl rfl rfl ⟨Nat.le_of_ble_eq_true rfl, Nat.le_of_ble_eq_true rfl, Nat.le_of_ble_eq_true rfl, Nat.le_of_ble_eq_true rfl, Nat.le_of_ble_eq_true rfl⟩ dX3_hasSoundLines_41 (fun r41 σ41 => ?_)
  refine j_isub C dX3_hasSoundLines_44 ?_
  refine j_ine 52 C dX3_hasSoundLines_45 (by decide) ?_ ?_
  · refine j_iconst (v := 0) 0 C dX3_hasSoundLines_52 (by decide) ?_
    exact j_iret C hr hlocks rfl dX3_hasSoundLines_53 (Nat.le_of_ble_eq_true rfl) (Nat.le_of_ble_eq_true rfl)
  · refine j_iconst (v := 1) 1 C dX3_hasSoundLines_48 (by decide) ?_
    refine j_goto 53 C dX3_hasSoundLines_49 (by decide) ?_
    exact j_iret C hr hlocks rfl dX3_hasSoundLines_53 (Nat.le_of_ble_eq_true rfl) (Nat.le_of_ble_eq_true rfl)
