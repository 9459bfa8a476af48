set_option maxHeartbeats 4000000 in
set_option maxRecDepth 100000 in
theorem con6_thrown (N : Nat) : ConI yX6_thrown cX6_thrown 1 .int rm6_thrown (fun E => [.ref (ea E 84)]) (f6_thrown N) := by
  refine conI_of (L := fun E => [(0, .ref (ea E 84))]) (by decide) (fun _ => Nat.le_of_ble_eq_true rfl) (fun _ => rfl) ?_
  intro l E σ p e s m args below meth c C hr hlocks
  unfold f6_thrown
  refine j_aload_n 0 C dX6_thrown_0 rfl rfl ?_
  refine j_get 0 C fl6_3 (by decide) (ct_84 E _) rfl dX6_thrown_1 ?_
  exact j_iret C hr hlocks rfl dX6_thrown_4 (Nat.le_of_ble_eq_true rfl) (Nat.le_of_ble_eq_true rfl)
set_option maxHeartbeats 4000000 in
set_option maxRecDepth 100000 in
theorem con6_in (N : Nat) (x0 : Int32) (x1 : Int32) (x2 : Int32) : ConI yX6_in cX6_in 3 .boolean rm6_in (fun E => [.int x0, .int x1, .int x2]) (f6_in N x0 x1 x2) := by
  refine conI_of (L := fun E => [(0, .int x0), (1, .int x1), (2, .int x2)]) (by decide) (fun _ => Nat.le_of_ble_eq_true rfl) (fun _ => rfl) ?_
  intro l E σ p e s m args below meth c C hr hlocks
  unfold f6_in
  refine j_iload_n 0 C dX6_in_0 rfl rfl ?_
  refine j_iload_n 1 C dX6_in_1 rfl rfl ?_
  refine j_ilt 14 C dX6_in_2 (by decide) ?_ ?_
  · refine j_iconst (v := 0) 0 C dX6_in_14 (by decide) ?_
    exact j_iret C hr hlocks rfl dX6_in_15 (Nat.le_of_ble_eq_true rfl) (Nat.le_of_ble_eq_true rfl)
  · refine j_iload_n 0 C dX6_in_5 rfl rfl ?_
    refine j_iload_n 2 C dX6_in_6 rfl rfl ?_
    refine j_igt 14 C dX6_in_7 (by decide) ?_ ?_
    · refine j_iconst (v := 0) 0 C dX6_in_14 (by decide) ?_
      exact j_iret C hr hlocks rfl dX6_in_15 (Nat.le_of_ble_eq_true rfl) (Nat.le_of_ble_eq_true rfl)
    · refine j_iconst (v := 1) 1 C dX6_in_10 (by decide) ?_
      refine j_goto 15 C dX6_in_11 (by decide) ?_
      exact j_iret C hr hlocks rfl dX6_in_15 (Nat.le_of_ble_eq_true rfl) (Nat.le_of_ble_eq_true rfl)
set_option maxHeartbeats 4000000 in
set_option maxRecDepth 100000 in
theorem con6_fails (N : Nat) (x1 : Int32) : ConI yX6_fails cX6_fails 2 .int rm6_fails (fun E => [.ref (ea E 84), .int x1]) (f6_fails N x1) := by
  refine conI_of (L := fun E => [(0, .ref (ea E 84)), (1, .int x1)]) (by decide) (fun _ => Nat.le_of_ble_eq_true rfl) (fun _ => rfl) ?_
  intro l E σ p e s m args below meth c C hr hlocks
  unfold f6_fails
  refine j_aload_n 0 C dX6_fails_0 rfl rfl ?_
  refine j_iload_n 1 C dX6_fails_1 rfl rfl ?_
  refine j_put 0 C fl6_3 rfl rfl rfl (by decide) (ct_84 E _) (Nat.le_of_ble_eq_true rfl) (ct_84 E _) dX6_fails_2 ?_
  refine j_iconst (v := 0) 0 C dX6_fails_5 (by decide) ?_
  exact j_iret C hr hlocks rfl dX6_fails_6 (Nat.le_of_ble_eq_true rfl) (Nat.le_of_ble_eq_true rfl)
set_option maxHeartbeats 4000000 in
set_option maxRecDepth 100000 in
theorem con6_copies (N : Nat) (a0 : Nat) (na0 : Nat) (a1 : Nat) (na1 : Nat) (x1 : Int32) (x3 : Int32) (ha0 : isA a0 na0) (ha1 : isA a1 na1) : ConV yX6_copies cX6_copies 5 rm6_copies (fun E => [.ref (ea E a0), .int x1, .ref (ea E a1), .int x3]) (f6_copies N a0 na0 a1 na1 x1 x3) := by
  refine conV_of (L := fun E => [(0, .ref (ea E a0)), (1, .int x1), (2, .ref (ea E a1)), (3, .int x3)]) (by decide) (fun _ => Nat.le_of_ble_eq_true rfl) (fun _ => rfl) ?_
  intro l E σ p e s m args below meth c C hr hlocks
  have wL3 : ∀ (K3 : Hp → Option (Unit × Hp)), (∀ (σ : Hp), J E 5 p l e rm6_copies s m args below meth c (QV E below args s rm6_copies.cells rm6_copies.slots) (K3 σ) 29 [] [] σ 0 0) → ∀ (n3 : Nat) (x4 : Int32) (σ : Hp), J E 5 p l e rm6_copies s m args below meth c (QV E below args s rm6_copies.cells rm6_copies.slots) (f6_copies_L3 N a0 na0 a1 na1 x1 x3 K3 n3 x4 σ) 3 [(0, .ref (ea E a0)), (1, .int x1), (2, .ref (ea E a1)), (3, .int x3), (4, .int x4)] [] σ 0 0 := by
    intro K3 HK3 n3
    induction n3 with
    | zero => intro x4 σ; exact j_none
    | succ n3 ih3 =>
      intro x4 σ
      show J E 5 p l e rm6_copies s m args below meth c (QV E below args s rm6_copies.cells rm6_copies.slots) (f6_copies_B3 N a0 na0 a1 na1 x1 x3 K3 (f6_copies_L3 N a0 na0 a1 na1 x1 x3 K3 n3) x4 σ) 3 [(0, .ref (ea E a0)), (1, .int x1), (2, .ref (ea E a1)), (3, .int x3), (4, .int x4)] [] σ 0 0
      unfold f6_copies_B3
      refine j_iload 4 C dX6_copies_3 rfl ?_
      refine j_sipush (v := 166) 166 C dX6_copies_5 (by decide) ?_
      refine j_ige 29 C dX6_copies_8 (by decide) ?_ ?_
      · exact j_sub [] rfl (HK3 σ)
      · refine j_aload_n 2 C dX6_copies_11 rfl rfl ?_
        refine j_iload_n 3 C dX6_copies_12 rfl rfl ?_
        refine j_iload 4 C dX6_copies_13 rfl ?_
        refine j_iadd C dX6_copies_15 ?_
        refine j_aload_n 0 C dX6_copies_16 rfl rfl ?_
        refine j_iload_n 1 C dX6_copies_17 rfl rfl ?_
        refine j_iload 4 C dX6_copies_18 rfl ?_
        refine j_iadd C dX6_copies_20 ?_
        refine j_iald C ha0.1 (ha0.2 E _) dX6_copies_21 ?_
        refine j_iast C ha1.1 (ha1.2 E) dX6_copies_22 ?_
        refine j_iinc 4 1 [(4, .int (x4 + 1)), (0, .ref (ea E a0)), (1, .int x1), (2, .ref (ea E a1)), (3, .int x3)] C dX6_copies_23 rfl rfl (by decide) rfl ?_
        refine j_goto 3 C dX6_copies_26 (by decide) ?_
        exact j_sub [1, 2, 3, 4, 0] rfl (ih3 (x4 + 1) (st σ a1 (x3 + x4).toNatClampNeg (σ a0 (x1 + x4).toNatClampNeg)))
  unfold f6_copies
  refine j_iconst (v := 0) 0 C dX6_copies_0 (by decide) ?_
  refine j_istore [(4, .int 0), (0, .ref (ea E a0)), (1, .int x1), (2, .ref (ea E a1)), (3, .int x3)] C dX6_copies_1 (by decide) rfl ?_
  refine j_sub [1, 2, 3, 4, 0] rfl (wL3 _ (fun σL3 => ?_) N 0 σ)
  exact j_vret C hr hlocks dX6_copies_29 (Nat.le_of_ble_eq_true rfl) (Nat.le_of_ble_eq_true rfl)
set_option maxHeartbeats 4000000 in
set_option maxRecDepth 100000 in
theorem con6_keeps (N : Nat) : ConV yX6_keeps cX6_keeps 1 rm6_keeps (fun E => [.ref (ea E 84)]) (f6_keeps N) := by
  refine conV_of (L := fun E => [(0, .ref (ea E 84))]) (by decide) (fun _ => Nat.le_of_ble_eq_true rfl) (fun _ => rfl) ?_
  intro l E σ p e s m args below meth c C hr hlocks
  unfold f6_keeps
  refine j_aload_n 0 C dX6_keeps_0 rfl rfl ?_
  refine j_get 1 C fl6_13 (by decide) (ct_84 E _) rfl dX6_keeps_1 ?_
  refine j_iconst (v := 0) 0 C dX6_keeps_4 (by decide) ?_
  refine j_aload_n 0 C dX6_keeps_5 rfl rfl ?_
  refine j_get 2 C fl6_17 (by decide) (ct_84 E _) rfl dX6_keeps_6 ?_
  refine j_iconst (v := 0) 0 C dX6_keeps_9 (by decide) ?_
  refine j_callSV [.ref (ea E 85), .int 0, .ref (ea E 86), .int 0] (con6_copies N 85 166 86 166 0 0 ⟨(by decide), fun _ _ => rfl⟩ ⟨(by decide), fun _ _ => rfl⟩) C mi6_copies ms6_copies lk6_84 rfl rfl ⟨Nat.le_of_ble_eq_true rfl, Nat.le_of_ble_eq_true rfl, Nat.le_of_ble_eq_true rfl, Nat.le_of_ble_eq_true rfl, Nat.le_of_ble_eq_true rfl⟩ dX6_keeps_10 (fun σ10 => ?_)
  exact j_vret C hr hlocks dX6_keeps_13 (Nat.le_of_ble_eq_true rfl) (Nat.le_of_ble_eq_true rfl)
set_option maxHeartbeats 4000000 in
set_option maxRecDepth 100000 in
theorem con6_changes (N : Nat) : ConV yX6_changes cX6_changes 2 rm6_changes (fun E => [.ref (ea E 84)]) (f6_changes N) := by
  refine conV_of (L := fun E => [(0, .ref (ea E 84))]) (by decide) (fun _ => Nat.le_of_ble_eq_true rfl) (fun _ => rfl) ?_
  intro l E σ p e s m args below meth c C hr hlocks
  have wJ56 : ∀ (σ : Hp), J E 2 p l e rm6_changes s m args below meth c (QV E below args s rm6_changes.cells rm6_changes.slots) (f6_changes_J56 N σ) 56 [(0, .ref (ea E 84))] [] σ 0 0 := by
    intro σ
    unfold f6_changes_J56
    refine j_aload_n 0 C dX6_changes_56 rfl rfl ?_
    refine j_get 2 C fl6_17 (by decide) (ct_84 E _) rfl dX6_changes_57 ?_
    refine j_iconst (v := 0) 0 C dX6_changes_60 (by decide) ?_
    refine j_aload_n 0 C dX6_changes_61 rfl rfl ?_
    refine j_get 4 C fl6_23 (by decide) (ct_84 E _) rfl dX6_changes_62 ?_
    refine j_sipush (v := 166) 166 C dX6_changes_65 (by decide) ?_
    refine j_aload_n 0 C dX6_changes_68 rfl rfl ?_
    refine j_get 5 C fl6_26 (by decide) (ct_84 E _) rfl dX6_changes_69 ?_
    refine j_imul C dX6_changes_72 ?_
    refine j_callSV [.ref (ea E 86), .int 0, .ref (ea E 88), .int (166 * (σ 84 5))] (con6_copies N 86 166 88 1328 0 (166 * (σ 84 5)) ⟨(by decide), fun _ _ => rfl⟩ ⟨(by decide), fun _ _ => rfl⟩) C mi6_copies ms6_copies lk6_84 rfl rfl ⟨Nat.le_of_ble_eq_true rfl, Nat.le_of_ble_eq_true rfl, Nat.le_of_ble_eq_true rfl, Nat.le_of_ble_eq_true rfl, Nat.le_of_ble_eq_true rfl⟩ dX6_changes_73 (fun σ73 => ?_)
    refine j_aload_n 0 C dX6_changes_76 rfl rfl ?_
    refine j_dup C dX6_changes_77 rfl ?_
    refine j_get 5 C fl6_26 (by decide) (ct_84 E _) rfl dX6_changes_78 ?_
    refine j_iconst (v := 1) 1 C dX6_changes_81 (by decide) ?_
    refine j_iadd C dX6_changes_82 ?_
    refine j_put 5 C fl6_26 rfl rfl rfl (by decide) (ct_84 E _) (Nat.le_of_ble_eq_true rfl) (ct_84 E _) dX6_changes_83 ?_
    exact j_vret C hr hlocks dX6_changes_86 (Nat.le_of_ble_eq_true rfl) (Nat.le_of_ble_eq_true rfl)
  have wL11 : ∀ (K11 : Hp → Option (Unit × Hp)), (∀ (σ : Hp), J E 2 p l e rm6_changes s m args below meth c (QV E below args s rm6_changes.cells rm6_changes.slots) (K11 σ) 46 [(0, .ref (ea E 84))] [] σ 0 0) → ∀ (n11 : Nat) (x1 : Int32) (σ : Hp), J E 2 p l e rm6_changes s m args below meth c (QV E below args s rm6_changes.cells rm6_changes.slots) (f6_changes_L11 N K11 n11 x1 σ) 11 [(0, .ref (ea E 84)), (1, .int x1)] [] σ 0 0 := by
    intro K11 HK11 n11
    induction n11 with
    | zero => intro x1 σ; exact j_none
    | succ n11 ih11 =>
      intro x1 σ
      show J E 2 p l e rm6_changes s m args below meth c (QV E below args s rm6_changes.cells rm6_changes.slots) (f6_changes_B11 N K11 (f6_changes_L11 N K11 n11) x1 σ) 11 [(0, .ref (ea E 84)), (1, .int x1)] [] σ 0 0
      unfold f6_changes_B11
      refine j_iload_n 1 C dX6_changes_11 rfl rfl ?_
      refine j_bipush (v := 8) 8 C dX6_changes_12 (by decide) ?_
      refine j_ige 46 C dX6_changes_14 (by decide) ?_ ?_
      · exact j_sub [0] rfl (HK11 σ)
      · refine j_aload_n 0 C dX6_changes_17 rfl rfl ?_
        refine j_get 4 C fl6_23 (by decide) (ct_84 E _) rfl dX6_changes_18 ?_
        refine j_sipush (v := 166) 166 C dX6_changes_21 (by decide) ?_
        refine j_iload_n 1 C dX6_changes_24 rfl rfl ?_
        refine j_imul C dX6_changes_25 ?_
        refine j_aload_n 0 C dX6_changes_26 rfl rfl ?_
        refine j_get 4 C fl6_23 (by decide) (ct_84 E _) rfl dX6_changes_27 ?_
        refine j_sipush (v := 166) 166 C dX6_changes_30 (by decide) ?_
        refine j_iload_n 1 C dX6_changes_33 rfl rfl ?_
        refine j_iconst (v := 1) 1 C dX6_changes_34 (by decide) ?_
        refine j_isub C dX6_changes_35 ?_
        refine j_imul C dX6_changes_36 ?_
        refine j_callSV [.ref (ea E 88), .int (166 * x1), .ref (ea E 88), .int (166 * (x1 - 1))] (con6_copies N 88 1328 88 1328 (166 * x1) (166 * (x1 - 1)) ⟨(by decide), fun _ _ => rfl⟩ ⟨(by decide), fun _ _ => rfl⟩) C mi6_copies ms6_copies lk6_84 rfl rfl ⟨Nat.le_of_ble_eq_true rfl, Nat.le_of_ble_eq_true rfl, Nat.le_of_ble_eq_true rfl, Nat.le_of_ble_eq_true rfl, Nat.le_of_ble_eq_true rfl⟩ dX6_changes_37 (fun σ37 => ?_)
        refine j_iinc 1 1 [(1, .int (x1 + 1)), (0, .ref (ea E 84))] C dX6_changes_40 rfl rfl (by decide) rfl ?_
        refine j_goto 11 C dX6_changes_43 (by decide) ?_
        exact j_sub [1, 0] rfl (ih11 (x1 + 1) σ37)
  unfold f6_changes
  refine j_aload_n 0 C dX6_changes_0 rfl rfl ?_
  refine j_get 5 C fl6_26 (by decide) (ct_84 E _) rfl dX6_changes_1 ?_
  refine j_bipush (v := 8) 8 C dX6_changes_4 (by decide) ?_
  refine j_ine 56 C dX6_changes_6 (by decide) ?_ ?_
  · exact j_sub [0] rfl (wJ56 σ)
  · refine j_iconst (v := 1) 1 C dX6_changes_9 (by decide) ?_
    refine j_istore_n [(1, .int 1), (0, .ref (ea E 84))] C dX6_changes_10 rfl (by decide) rfl ?_
    refine j_sub [1, 0] rfl (wL11 _ (fun σL11 => ?_) N 1 σ)
    refine j_aload_n 0 C dX6_changes_46 rfl rfl ?_
    refine j_dup C dX6_changes_47 rfl ?_
    refine j_get 5 C fl6_26 (by decide) (ct_84 E _) rfl dX6_changes_48 ?_
    refine j_iconst (v := 1) 1 C dX6_changes_51 (by decide) ?_
    refine j_isub C dX6_changes_52 ?_
    refine j_put 5 C fl6_26 rfl rfl rfl (by decide) (ct_84 E _) (Nat.le_of_ble_eq_true rfl) (ct_84 E _) dX6_changes_53 ?_
    exact j_sub [0] rfl (wJ56 (st σL11 84 5 ((σL11 84 5) - 1)))
set_option maxHeartbeats 4000000 in
set_option maxRecDepth 100000 in
theorem con6_of (N : Nat) (x1 : Int32) (x2 : Int32) : ConI yX6_of cX6_of 3 .int rm6_of (fun E => [.ref (ea E 84), .int x1, .int x2]) (f6_of N x1 x2) := by
  refine conI_of (L := fun E => [(0, .ref (ea E 84)), (1, .int x1), (2, .int x2)]) (by decide) (fun _ => Nat.le_of_ble_eq_true rfl) (fun _ => rfl) ?_
  intro l E σ p e s m args below meth c C hr hlocks
  unfold f6_of
  refine j_aload_n 0 C dX6_of_0 rfl rfl ?_
  refine j_get 1 C fl6_13 (by decide) (ct_84 E _) rfl dX6_of_1 ?_
  refine j_iconst (v := 2) 2 C dX6_of_4 (by decide) ?_
  refine j_bipush (v := 9) 9 C dX6_of_5 (by decide) ?_
  refine j_iload_n 1 C dX6_of_7 rfl rfl ?_
  refine j_imul C dX6_of_8 ?_
  refine j_iadd C dX6_of_9 ?_
  refine j_iload_n 2 C dX6_of_10 rfl rfl ?_
  refine j_iadd C dX6_of_11 ?_
  refine j_iald C (by decide) (ct_85 E _) dX6_of_12 ?_
  exact j_iret C hr hlocks rfl dX6_of_13 (Nat.le_of_ble_eq_true rfl) (Nat.le_of_ble_eq_true rfl)
set_option maxHeartbeats 4000000 in
set_option maxRecDepth 100000 in
theorem con6_ad (N : Nat) (x1 : Int32) (x2 : Int32) : ConI yX6_ad cX6_ad 3 .int rm6_ad (fun E => [.ref (ea E 84), .int x1, .int x2]) (f6_ad N x1 x2) := by
  refine conI_of (L := fun E => [(0, .ref (ea E 84)), (1, .int x1), (2, .int x2)]) (by decide) (fun _ => Nat.le_of_ble_eq_true rfl) (fun _ => rfl) ?_
  intro l E σ p e s m args below meth c C hr hlocks
  unfold f6_ad
  refine j_aload_n 0 C dX6_ad_0 rfl rfl ?_
  refine j_get 1 C fl6_13 (by decide) (ct_84 E _) rfl dX6_ad_1 ?_
  refine j_bipush (v := 110) 110 C dX6_ad_4 (by decide) ?_
  refine j_bipush (v := 7) 7 C dX6_ad_6 (by decide) ?_
  refine j_iload_n 1 C dX6_ad_8 rfl rfl ?_
  refine j_imul C dX6_ad_9 ?_
  refine j_iadd C dX6_ad_10 ?_
  refine j_iload_n 2 C dX6_ad_11 rfl rfl ?_
  refine j_iadd C dX6_ad_12 ?_
  refine j_iald C (by decide) (ct_85 E _) dX6_ad_13 ?_
  exact j_iret C hr hlocks rfl dX6_ad_14 (Nat.le_of_ble_eq_true rfl) (Nat.le_of_ble_eq_true rfl)
set_option maxHeartbeats 4000000 in
set_option maxRecDepth 100000 in
theorem con6_isStory (N : Nat) (x1 : Int32) : ConI yX6_isStory cX6_isStory 2 .boolean rm6_isStory (fun E => [.ref (ea E 84), .int x1]) (f6_isStory N x1) := by
  refine conI_of (L := fun E => [(0, .ref (ea E 84)), (1, .int x1)]) (by decide) (fun _ => Nat.le_of_ble_eq_true rfl) (fun _ => rfl) ?_
  intro l E σ p e s m args below meth c C hr hlocks
  unfold f6_isStory
  refine j_iload_n 1 C dX6_isStory_0 rfl rfl ?_
  refine j_iconst (v := 0) 0 C dX6_isStory_1 (by decide) ?_
  refine j_bipush (v := 11) 11 C dX6_isStory_2 (by decide) ?_
  refine j_callSI [.int x1, .int 0, .int 11] (con6_in N x1 0 11) C mi6_in ms6_in lk6_88 rfl rfl ⟨Nat.le_of_ble_eq_true rfl, Nat.le_of_ble_eq_true rfl, Nat.le_of_ble_eq_true rfl, Nat.le_of_ble_eq_true rfl, Nat.le_of_ble_eq_true rfl⟩ dX6_isStory_4 (fun r4 σ4 => ?_)
  refine j_zeq 24 C dX6_isStory_7 (by decide) ?_ ?_
  · refine j_iconst (v := 0) 0 C dX6_isStory_24 (by decide) ?_
    exact j_iret C hr hlocks rfl dX6_isStory_25 (Nat.le_of_ble_eq_true rfl) (Nat.le_of_ble_eq_true rfl)
  · refine j_aload_n 0 C dX6_isStory_10 rfl rfl ?_
    refine j_iload_n 1 C dX6_isStory_11 rfl rfl ?_
    refine j_iconst (v := 0) 0 C dX6_isStory_12 (by decide) ?_
    refine j_callVI [.int x1, .int 0] (con6_of N x1 0) C mi6_of mv6_of lk6_92 (by decide) (ct_84 E _) rfl rfl rfl ⟨Nat.le_of_ble_eq_true rfl, Nat.le_of_ble_eq_true rfl, Nat.le_of_ble_eq_true rfl, Nat.le_of_ble_eq_true rfl, Nat.le_of_ble_eq_true rfl⟩ dX6_isStory_13 (fun r13 σ13 => ?_)
    refine j_iconst (v := 1) 1 C dX6_isStory_16 (by decide) ?_
    refine j_ine 24 C dX6_isStory_17 (by decide) ?_ ?_
    · refine j_iconst (v := 0) 0 C dX6_isStory_24 (by decide) ?_
      exact j_iret C hr hlocks rfl dX6_isStory_25 (Nat.le_of_ble_eq_true rfl) (Nat.le_of_ble_eq_true rfl)
    · refine j_iconst (v := 1) 1 C dX6_isStory_20 (by decide) ?_
      refine j_goto 25 C dX6_isStory_21 (by decide) ?_
      exact j_iret C hr hlocks rfl dX6_isStory_25 (Nat.le_of_ble_eq_true rfl) (Nat.le_of_ble_eq_true rfl)
set_option maxHeartbeats 4000000 in
set_option maxRecDepth 100000 in
theorem con6_isAd (N : Nat) (x1 : Int32) : ConI yX6_isAd cX6_isAd 2 .boolean rm6_isAd (fun E => [.ref (ea E 84), .int x1]) (f6_isAd N x1) := by
  refine conI_of (L := fun E => [(0, .ref (ea E 84)), (1, .int x1)]) (by decide) (fun _ => Nat.le_of_ble_eq_true rfl) (fun _ => rfl) ?_
  intro l E σ p e s m args below meth c C hr hlocks
  unfold f6_isAd
  refine j_iload_n 1 C dX6_isAd_0 rfl rfl ?_
  refine j_iconst (v := 0) 0 C dX6_isAd_1 (by decide) ?_
  refine j_bipush (v := 7) 7 C dX6_isAd_2 (by decide) ?_
  refine j_callSI [.int x1, .int 0, .int 7] (con6_in N x1 0 7) C mi6_in ms6_in lk6_88 rfl rfl ⟨Nat.le_of_ble_eq_true rfl, Nat.le_of_ble_eq_true rfl, Nat.le_of_ble_eq_true rfl, Nat.le_of_ble_eq_true rfl, Nat.le_of_ble_eq_true rfl⟩ dX6_isAd_4 (fun r4 σ4 => ?_)
  refine j_zeq 24 C dX6_isAd_7 (by decide) ?_ ?_
  · refine j_iconst (v := 0) 0 C dX6_isAd_24 (by decide) ?_
    exact j_iret C hr hlocks rfl dX6_isAd_25 (Nat.le_of_ble_eq_true rfl) (Nat.le_of_ble_eq_true rfl)
  · refine j_aload_n 0 C dX6_isAd_10 rfl rfl ?_
    refine j_iload_n 1 C dX6_isAd_11 rfl rfl ?_
    refine j_iconst (v := 0) 0 C dX6_isAd_12 (by decide) ?_
    refine j_callVI [.int x1, .int 0] (con6_ad N x1 0) C mi6_ad mv6_ad lk6_96 (by decide) (ct_84 E _) rfl rfl rfl ⟨Nat.le_of_ble_eq_true rfl, Nat.le_of_ble_eq_true rfl, Nat.le_of_ble_eq_true rfl, Nat.le_of_ble_eq_true rfl, Nat.le_of_ble_eq_true rfl⟩ dX6_isAd_13 (fun r13 σ13 => ?_)
    refine j_iconst (v := 1) 1 C dX6_isAd_16 (by decide) ?_
    refine j_ine 24 C dX6_isAd_17 (by decide) ?_ ?_
    · refine j_iconst (v := 0) 0 C dX6_isAd_24 (by decide) ?_
      exact j_iret C hr hlocks rfl dX6_isAd_25 (Nat.le_of_ble_eq_true rfl) (Nat.le_of_ble_eq_true rfl)
    · refine j_iconst (v := 1) 1 C dX6_isAd_20 (by decide) ?_
      refine j_goto 25 C dX6_isAd_21 (by decide) ?_
      exact j_iret C hr hlocks rfl dX6_isAd_25 (Nat.le_of_ble_eq_true rfl) (Nat.le_of_ble_eq_true rfl)
set_option maxHeartbeats 4000000 in
set_option maxRecDepth 100000 in
theorem con6_hits (N : Nat) (x1 : Int32) (x2 : Int32) (x3 : Int32) (x4 : Int32) (x5 : Int32) : ConI yX6_hits cX6_hits 8 .boolean rm6_hits (fun E => [.ref (ea E 84), .int x1, .int x2, .int x3, .int x4, .int x5]) (f6_hits N x1 x2 x3 x4 x5) := by
  refine conI_of (L := fun E => [(0, .ref (ea E 84)), (1, .int x1), (2, .int x2), (3, .int x3), (4, .int x4), (5, .int x5)]) (by decide) (fun _ => Nat.le_of_ble_eq_true rfl) (fun _ => rfl) ?_
  intro l E σ p e s m args below meth c C hr hlocks
  have wL3 : ∀ (K3 : Hp → Option (Int32 × Hp)), (∀ (σ : Hp), J E 8 p l e rm6_hits s m args below meth c (QI E below args s rm6_hits.cells rm6_hits.slots) (K3 σ) 120 [] [] σ 0 0) → ∀ (n3 : Nat) (x6 : Int32) (σ : Hp), J E 8 p l e rm6_hits s m args below meth c (QI E below args s rm6_hits.cells rm6_hits.slots) (f6_hits_L3 N x1 x2 x3 x4 x5 K3 n3 x6 σ) 3 [(0, .ref (ea E 84)), (1, .int x1), (2, .int x2), (3, .int x3), (4, .int x4), (5, .int x5), (6, .int x6)] [] σ 0 0 := by
    intro K3 HK3 n3
    induction n3 with
    | zero => intro x6 σ; exact j_none
    | succ n3 ih3 =>
      have wJ114 : ∀ (x6 : Int32) (σ : Hp), J E 8 p l e rm6_hits s m args below meth c (QI E below args s rm6_hits.cells rm6_hits.slots) (f6_hits_J114 N x1 x2 x3 x4 x5 K3 (f6_hits_L3 N x1 x2 x3 x4 x5 K3 n3) x6 σ) 114 [(0, .ref (ea E 84)), (1, .int x1), (2, .int x2), (3, .int x3), (4, .int x4), (5, .int x5), (6, .int x6)] [] σ 0 0 := by
        intro x6 σ
        unfold f6_hits_J114
        refine j_iinc 6 1 [(6, .int (x6 + 1)), (0, .ref (ea E 84)), (1, .int x1), (2, .int x2), (3, .int x3), (4, .int x4), (5, .int x5)] C dX6_hits_114 rfl rfl (by decide) rfl ?_
        refine j_goto 3 C dX6_hits_117 (by decide) ?_
        exact j_sub [1, 2, 3, 4, 5, 6, 0] rfl (ih3 (x6 + 1) σ)
      have wJ72 : ∀ (x6 : Int32) (y0 : Int32) (σ : Hp), J E 8 p l e rm6_hits s m args below meth c (QI E below args s rm6_hits.cells rm6_hits.slots) (f6_hits_J72 N x1 x2 x3 x4 x5 K3 (f6_hits_L3 N x1 x2 x3 x4 x5 K3 n3) x6 y0 σ) 72 [(0, .ref (ea E 84)), (1, .int x1), (2, .int x2), (3, .int x3), (4, .int x4), (5, .int x5), (6, .int x6)] [.int y0] σ 0 0 := by
        intro x6 y0 σ
        unfold f6_hits_J72
        refine j_istore [(7, .int y0), (0, .ref (ea E 84)), (1, .int x1), (2, .int x2), (3, .int x3), (4, .int x4), (5, .int x5), (6, .int x6)] C dX6_hits_72 (by decide) rfl ?_
        refine j_iload 0 C dX6_hits_74 rfl ?_
        refine j_zne 114 C dX6_hits_76 (by decide) ?_ ?_
        · exact j_sub [1, 2, 3, 4, 5, 6, 7] rfl (wJ114 x6 σ)
        · refine j_iload_n 4 C dX6_hits_79 rfl rfl ?_
          refine j_aload_n 1 C dX6_hits_80 rfl rfl ?_
          refine j_iload 7 C dX6_hits_81 rfl ?_
          refine j_iconst (v := 3) 3 C dX6_hits_83 (by decide) ?_
          refine j_callVI [.int x6, .int 3] (con6_ad N x6 3) C mi6_ad mv6_ad lk6_96 (by decide) (ct_84 E _) rfl rfl rfl ⟨Nat.le_of_ble_eq_true rfl, Nat.le_of_ble_eq_true rfl, Nat.le_of_ble_eq_true rfl, Nat.le_of_ble_eq_true rfl, Nat.le_of_ble_eq_true rfl⟩ dX6_hits_84 (fun r84 σ84 => ?_)
          refine j_aload_n 1 C dX6_hits_87 rfl rfl ?_
          refine j_iload 7 C dX6_hits_88 rfl ?_
          refine j_iconst (v := 5) 5 C dX6_hits_90 (by decide) ?_
          refine j_callVI [.int x6, .int 5] (con6_ad N x6 5) C mi6_ad mv6_ad lk6_96 (by decide) (ct_84 E _) rfl rfl rfl ⟨Nat.le_of_ble_eq_true rfl, Nat.le_of_ble_eq_true rfl, Nat.le_of_ble_eq_true rfl, Nat.le_of_ble_eq_true rfl, Nat.le_of_ble_eq_true rfl⟩ dX6_hits_91 (fun r91 σ91 => ?_)
          refine j_iadd C dX6_hits_94 ?_
          refine j_ige 114 C dX6_hits_95 (by decide) ?_ ?_
          · exact j_sub [1, 2, 3, 4, 5, 6, 7] rfl (wJ114 x6 σ91)
          · refine j_aload_n 1 C dX6_hits_98 rfl rfl ?_
            refine j_iload 7 C dX6_hits_99 rfl ?_
            refine j_iconst (v := 3) 3 C dX6_hits_101 (by decide) ?_
            refine j_callVI [.int x6, .int 3] (con6_ad N x6 3) C mi6_ad mv6_ad lk6_96 (by decide) (ct_84 E _) rfl rfl rfl ⟨Nat.le_of_ble_eq_true rfl, Nat.le_of_ble_eq_true rfl, Nat.le_of_ble_eq_true rfl, Nat.le_of_ble_eq_true rfl, Nat.le_of_ble_eq_true rfl⟩ dX6_hits_102 (fun r102 σ102 => ?_)
            refine j_iload_n 4 C dX6_hits_105 rfl rfl ?_
            refine j_iload 6 C dX6_hits_106 rfl ?_
            refine j_iadd C dX6_hits_108 ?_
            refine j_ige 114 C dX6_hits_109 (by decide) ?_ ?_
            · exact j_sub [1, 2, 3, 4, 5, 6, 7] rfl (wJ114 x6 σ102)
            · refine j_iconst (v := 1) 1 C dX6_hits_112 (by decide) ?_
              exact j_iret C hr hlocks rfl dX6_hits_113 (Nat.le_of_ble_eq_true rfl) (Nat.le_of_ble_eq_true rfl)
      have wJ67 : ∀ (x6 : Int32) (σ : Hp), J E 8 p l e rm6_hits s m args below meth c (QI E below args s rm6_hits.cells rm6_hits.slots) (f6_hits_J67 N x1 x2 x3 x4 x5 K3 (f6_hits_L3 N x1 x2 x3 x4 x5 K3 n3) x6 σ) 67 [(0, .ref (ea E 84)), (1, .int x1), (2, .int x2), (3, .int x3), (4, .int x4), (5, .int x5), (6, .int x6)] [] σ 0 0 := by
        intro x6 σ
        unfold f6_hits_J67
        refine j_iconst (v := 1) 1 C dX6_hits_67 (by decide) ?_
        refine j_goto 72 C dX6_hits_68 (by decide) ?_
        exact j_sub [0, 1, 2, 3, 4, 5, 6] rfl (wJ72 x6 1 σ)
      intro x6 σ
      show J E 8 p l e rm6_hits s m args below meth c (QI E below args s rm6_hits.cells rm6_hits.slots) (f6_hits_B3 N x1 x2 x3 x4 x5 K3 (f6_hits_L3 N x1 x2 x3 x4 x5 K3 n3) x6 σ) 3 [(0, .ref (ea E 84)), (1, .int x1), (2, .int x2), (3, .int x3), (4, .int x4), (5, .int x5), (6, .int x6)] [] σ 0 0
      unfold f6_hits_B3
      refine j_iload 6 C dX6_hits_3 rfl ?_
      refine j_bipush (v := 8) 8 C dX6_hits_5 (by decide) ?_
      refine j_ige 120 C dX6_hits_7 (by decide) ?_ ?_
      · exact j_sub [] rfl (HK3 σ)
      · refine j_aload_n 0 C dX6_hits_10 rfl rfl ?_
        refine j_iload 6 C dX6_hits_11 rfl ?_
        refine j_iconst (v := 0) 0 C dX6_hits_13 (by decide) ?_
        refine j_callVI [.int x6, .int 0] (con6_ad N x6 0) C mi6_ad mv6_ad lk6_96 (by decide) (ct_84 E _) rfl rfl rfl ⟨Nat.le_of_ble_eq_true rfl, Nat.le_of_ble_eq_true rfl, Nat.le_of_ble_eq_true rfl, Nat.le_of_ble_eq_true rfl, Nat.le_of_ble_eq_true rfl⟩ dX6_hits_14 (fun r14 σ14 => ?_)
        refine j_zeq 114 C dX6_hits_17 (by decide) ?_ ?_
        · exact j_sub [0, 1, 2, 3, 4, 5, 6] rfl (wJ114 x6 σ14)
        · refine j_aload_n 0 C dX6_hits_20 rfl rfl ?_
          refine j_iload 6 C dX6_hits_21 rfl ?_
          refine j_iconst (v := 1) 1 C dX6_hits_23 (by decide) ?_
          refine j_callVI [.int x6, .int 1] (con6_ad N x6 1) C mi6_ad mv6_ad lk6_96 (by decide) (ct_84 E _) rfl rfl rfl ⟨Nat.le_of_ble_eq_true rfl, Nat.le_of_ble_eq_true rfl, Nat.le_of_ble_eq_true rfl, Nat.le_of_ble_eq_true rfl, Nat.le_of_ble_eq_true rfl⟩ dX6_hits_24 (fun r24 σ24 => ?_)
          refine j_iload_n 1 C dX6_hits_27 rfl rfl ?_
          refine j_ieq 34 C dX6_hits_28 (by decide) ?_ ?_
          · refine j_iload_n 2 C dX6_hits_34 rfl rfl ?_
            refine j_iload 4 C dX6_hits_35 rfl ?_
            refine j_iadd C dX6_hits_37 ?_
            refine j_aload_n 0 C dX6_hits_38 rfl rfl ?_
            refine j_iload 6 C dX6_hits_39 rfl ?_
            refine j_iconst (v := 2) 2 C dX6_hits_41 (by decide) ?_
            refine j_callVI [.int x6, .int 2] (con6_ad N x6 2) C mi6_ad mv6_ad lk6_96 (by decide) (ct_84 E _) rfl rfl rfl ⟨Nat.le_of_ble_eq_true rfl, Nat.le_of_ble_eq_true rfl, Nat.le_of_ble_eq_true rfl, Nat.le_of_ble_eq_true rfl, Nat.le_of_ble_eq_true rfl⟩ dX6_hits_42 (fun r42 σ42 => ?_)
            refine j_ile 67 C dX6_hits_45 (by decide) ?_ ?_
            · exact j_sub [0, 1, 2, 3, 4, 5, 6] rfl (wJ67 x6 σ42)
            · refine j_aload_n 0 C dX6_hits_48 rfl rfl ?_
              refine j_iload 6 C dX6_hits_49 rfl ?_
              refine j_iconst (v := 2) 2 C dX6_hits_51 (by decide) ?_
              refine j_callVI [.int x6, .int 2] (con6_ad N x6 2) C mi6_ad mv6_ad lk6_96 (by decide) (ct_84 E _) rfl rfl rfl ⟨Nat.le_of_ble_eq_true rfl, Nat.le_of_ble_eq_true rfl, Nat.le_of_ble_eq_true rfl, Nat.le_of_ble_eq_true rfl, Nat.le_of_ble_eq_true rfl⟩ dX6_hits_52 (fun r52 σ52 => ?_)
              refine j_aload_n 0 C dX6_hits_55 rfl rfl ?_
              refine j_iload 6 C dX6_hits_56 rfl ?_
              refine j_iconst (v := 4) 4 C dX6_hits_58 (by decide) ?_
              refine j_callVI [.int x6, .int 4] (con6_ad N x6 4) C mi6_ad mv6_ad lk6_96 (by decide) (ct_84 E _) rfl rfl rfl ⟨Nat.le_of_ble_eq_true rfl, Nat.le_of_ble_eq_true rfl, Nat.le_of_ble_eq_true rfl, Nat.le_of_ble_eq_true rfl, Nat.le_of_ble_eq_true rfl⟩ dX6_hits_59 (fun r59 σ59 => ?_)
              refine j_iadd C dX6_hits_62 ?_
              refine j_iload_n 2 C dX6_hits_63 rfl rfl ?_
              refine j_igt 71 C dX6_hits_64 (by decide) ?_ ?_
              · refine j_iconst (v := 0) 0 C dX6_hits_71 (by decide) ?_
                exact j_sub [0, 1, 2, 3, 4, 5, 6] rfl (wJ72 x6 0 σ59)
              · exact j_sub [0, 1, 2, 3, 4, 5, 6] rfl (wJ67 x6 σ59)
          · refine j_goto 114 C dX6_hits_31 (by decide) ?_
            exact j_sub [0, 1, 2, 3, 4, 5, 6] rfl (wJ114 x6 σ24)
  unfold f6_hits
  refine j_iconst (v := 0) 0 C dX6_hits_0 (by decide) ?_
  refine j_istore [(6, .int 0), (0, .ref (ea E 84)), (1, .int x1), (2, .int x2), (3, .int x3), (4, .int x4), (5, .int x5)] C dX6_hits_1 (by decide) rfl ?_
  refine j_sub [1, 2, 3, 4, 5, 6, 0] rfl (wL3 _ (fun σL3 => ?_) N 0 σ)
  refine j_iconst (v := 0) 0 C dX6_hits_120 (by decide) ?_
  exact j_iret C hr hlocks rfl dX6_hits_121 (Nat.le_of_ble_eq_true rfl) (Nat.le_of_ble_eq_true rfl)
set_option maxHeartbeats 4000000 in
set_option maxRecDepth 100000 in
theorem con6_laysAd (N : Nat) (x1 : Int32) (x2 : Int32) (x3 : Int32) (x4 : Int32) (x5 : Int32) (x6 : Int32) : ConI yX6_laysAd cX6_laysAd 10 .int rm6_laysAd (fun E => [.ref (ea E 84), .int x1, .int x2, .int x3, .int x4, .int x5, .int x6]) (f6_laysAd N x1 x2 x3 x4 x5 x6) := by
  refine conI_of (L := fun E => [(0, .ref (ea E 84)), (1, .int x1), (2, .int x2), (3, .int x3), (4, .int x4), (5, .int x5), (6, .int x6)]) (by decide) (fun _ => Nat.le_of_ble_eq_true rfl) (fun _ => rfl) ?_
  intro l E σ p e s m args below meth c C hr hlocks
  have wJ118 : ∀ (σ : Hp), J E 10 p l e rm6_laysAd s m args below meth c (QI E below args s rm6_laysAd.cells rm6_laysAd.slots) (f6_laysAd_J118 N x1 x2 x3 x4 x5 x6 σ) 118 [(0, .ref (ea E 84))] [] σ 0 0 := by
    intro σ
    unfold f6_laysAd_J118
    refine j_aload_n 0 C dX6_laysAd_118 rfl rfl ?_
    refine j_iconst (v := 3) 3 C dX6_laysAd_119 (by decide) ?_
    refine j_callVI [.int 3] (con6_fails N 3) C mi6_fails mv6_fails lk6_99 (by decide) (ct_84 E _) rfl rfl rfl ⟨Nat.le_of_ble_eq_true rfl, Nat.le_of_ble_eq_true rfl, Nat.le_of_ble_eq_true rfl, Nat.le_of_ble_eq_true rfl, Nat.le_of_ble_eq_true rfl⟩ dX6_laysAd_120 (fun r120 σ120 => ?_)
    exact j_iret C hr hlocks rfl dX6_laysAd_123 (Nat.le_of_ble_eq_true rfl) (Nat.le_of_ble_eq_true rfl)
  have wJ58 : ∀ (y0 : Int32) (σ : Hp), J E 10 p l e rm6_laysAd s m args below meth c (QI E below args s rm6_laysAd.cells rm6_laysAd.slots) (f6_laysAd_J58 N x1 x2 x3 x4 x5 x6 y0 σ) 58 [(0, .ref (ea E 84)), (1, .int x1), (2, .int x2), (3, .int x3), (4, .int x4), (5, .int x5), (6, .int x6)] [.int y0] σ 0 0 := by
    intro y0 σ
    unfold f6_laysAd_J58
    refine j_istore [(7, .int y0), (0, .ref (ea E 84)), (1, .int x1), (2, .int x2), (3, .int x3), (4, .int x4), (5, .int x5), (6, .int x6)] C dX6_laysAd_58 (by decide) rfl ?_
    refine j_iload 0 C dX6_laysAd_60 rfl ?_
    refine j_zne 71 C dX6_laysAd_62 (by decide) ?_ ?_
    · refine j_iload 7 C dX6_laysAd_71 rfl ?_
      refine j_iconst (v := 1) 1 C dX6_laysAd_73 (by decide) ?_
      refine j_sipush (v := 999) 999 C dX6_laysAd_74 (by decide) ?_
      refine j_callSI [.int x6, .int 1, .int 999] (con6_in N x6 1 999) C mi6_in ms6_in lk6_88 rfl rfl ⟨Nat.le_of_ble_eq_true rfl, Nat.le_of_ble_eq_true rfl, Nat.le_of_ble_eq_true rfl, Nat.le_of_ble_eq_true rfl, Nat.le_of_ble_eq_true rfl⟩ dX6_laysAd_77 (fun r77 σ77 => ?_)
      refine j_zne 89 C dX6_laysAd_80 (by decide) ?_ ?_
      · refine j_aload_n 1 C dX6_laysAd_89 rfl rfl ?_
        refine j_get 1 C fl6_13 (by decide) (ct_84 E _) rfl dX6_laysAd_90 ?_
        refine j_iconst (v := 1) 1 C dX6_laysAd_93 (by decide) ?_
        refine j_iald C (by decide) (ct_85 E _) dX6_laysAd_94 ?_
        refine j_istore [(8, .int (σ77 85 (1 : Int32).toNatClampNeg)), (7, .int y0), (0, .ref (ea E 84)), (1, .int x1), (2, .int x2), (3, .int x3), (4, .int x4), (5, .int x5), (6, .int x6)] C dX6_laysAd_95 (by decide) rfl ?_
        refine j_iload 0 C dX6_laysAd_97 rfl ?_
        refine j_bipush (v := 8) 8 C dX6_laysAd_99 (by decide) ?_
        refine j_ieq 118 C dX6_laysAd_101 (by decide) ?_ ?_
        · exact j_sub [2] rfl (wJ118 σ77)
        · refine j_aload_n 2 C dX6_laysAd_104 rfl rfl ?_
          refine j_iload_n 3 C dX6_laysAd_105 rfl rfl ?_
          refine j_iload_n 4 C dX6_laysAd_106 rfl rfl ?_
          refine j_iload_n 5 C dX6_laysAd_107 rfl rfl ?_
          refine j_iload 6 C dX6_laysAd_108 rfl ?_
          refine j_iload 7 C dX6_laysAd_110 rfl ?_
          refine j_callVI [.int x1, .int x2, .int x3, .int x4, .int x5] (con6_hits N x1 x2 x3 x4 x5) C mi6_hits mv6_hits lk6_103 (by decide) (ct_84 E _) rfl rfl rfl ⟨Nat.le_of_ble_eq_true rfl, Nat.le_of_ble_eq_true rfl, Nat.le_of_ble_eq_true rfl, Nat.le_of_ble_eq_true rfl, Nat.le_of_ble_eq_true rfl⟩ dX6_laysAd_112 (fun r112 σ112 => ?_)
          refine j_zeq 124 C dX6_laysAd_115 (by decide) ?_ ?_
          · refine j_bipush (v := 110) 110 C dX6_laysAd_124 (by decide) ?_
            refine j_bipush (v := 7) 7 C dX6_laysAd_126 (by decide) ?_
            refine j_iload 0 C dX6_laysAd_128 rfl ?_
            refine j_imul C dX6_laysAd_130 ?_
            refine j_iadd C dX6_laysAd_131 ?_
            refine j_istore [(9, .int (110 + (7 * (σ77 85 (1 : Int32).toNatClampNeg)))), (8, .int (σ77 85 (1 : Int32).toNatClampNeg)), (7, .int y0), (0, .ref (ea E 84)), (1, .int x1), (2, .int x2), (3, .int x3), (4, .int x4), (5, .int x5), (6, .int x6)] C dX6_laysAd_132 (by decide) rfl ?_
            refine j_aload_n 3 C dX6_laysAd_134 rfl rfl ?_
            refine j_get 1 C fl6_13 (by decide) (ct_84 E _) rfl dX6_laysAd_135 ?_
            refine j_iload 0 C dX6_laysAd_138 rfl ?_
            refine j_iconst (v := 1) 1 C dX6_laysAd_140 (by decide) ?_
            refine j_iast C (by decide) (ct_85 E) dX6_laysAd_141 ?_
            refine j_aload_n 3 C dX6_laysAd_142 rfl rfl ?_
            refine j_get 1 C fl6_13 (by decide) (ct_84 E _) rfl dX6_laysAd_143 ?_
            refine j_iload 0 C dX6_laysAd_146 rfl ?_
            refine j_iconst (v := 1) 1 C dX6_laysAd_148 (by decide) ?_
            refine j_iadd C dX6_laysAd_149 ?_
            refine j_iload_n 4 C dX6_laysAd_150 rfl rfl ?_
            refine j_iast C (by decide) (ct_85 E) dX6_laysAd_151 ?_
            refine j_aload_n 3 C dX6_laysAd_152 rfl rfl ?_
            refine j_get 1 C fl6_13 (by decide) (ct_84 E _) rfl dX6_laysAd_153 ?_
            refine j_iload 0 C dX6_laysAd_156 rfl ?_
            refine j_iconst (v := 2) 2 C dX6_laysAd_158 (by decide) ?_
            refine j_iadd C dX6_laysAd_159 ?_
            refine j_iload_n 5 C dX6_laysAd_160 rfl rfl ?_
            refine j_iast C (by decide) (ct_85 E) dX6_laysAd_161 ?_
            refine j_aload_n 3 C dX6_laysAd_162 rfl rfl ?_
            refine j_get 1 C fl6_13 (by decide) (ct_84 E _) rfl dX6_laysAd_163 ?_
            refine j_iload 0 C dX6_laysAd_166 rfl ?_
            refine j_iconst (v := 3) 3 C dX6_laysAd_168 (by decide) ?_
            refine j_iadd C dX6_laysAd_169 ?_
            refine j_iload_n 6 C dX6_laysAd_170 rfl rfl ?_
            refine j_iast C (by decide) (ct_85 E) dX6_laysAd_171 ?_
            refine j_aload_n 3 C dX6_laysAd_172 rfl rfl ?_
            refine j_get 1 C fl6_13 (by decide) (ct_84 E _) rfl dX6_laysAd_173 ?_
            refine j_iload 0 C dX6_laysAd_176 rfl ?_
            refine j_iconst (v := 4) 4 C dX6_laysAd_178 (by decide) ?_
            refine j_iadd C dX6_laysAd_179 ?_
            refine j_iload 7 C dX6_laysAd_180 rfl ?_
            refine j_iast C (by decide) (ct_85 E) dX6_laysAd_182 ?_
            refine j_aload_n 3 C dX6_laysAd_183 rfl rfl ?_
            refine j_get 1 C fl6_13 (by decide) (ct_84 E _) rfl dX6_laysAd_184 ?_
            refine j_iload 0 C dX6_laysAd_187 rfl ?_
            refine j_iconst (v := 5) 5 C dX6_laysAd_189 (by decide) ?_
            refine j_iadd C dX6_laysAd_190 ?_
            refine j_iload 8 C dX6_laysAd_191 rfl ?_
            refine j_iast C (by decide) (ct_85 E) dX6_laysAd_193 ?_
            refine j_aload_n 3 C dX6_laysAd_194 rfl rfl ?_
            refine j_get 1 C fl6_13 (by decide) (ct_84 E _) rfl dX6_laysAd_195 ?_
            refine j_iload 0 C dX6_laysAd_198 rfl ?_
            refine j_bipush (v := 6) 6 C dX6_laysAd_200 (by decide) ?_
            refine j_iadd C dX6_laysAd_202 ?_
            refine j_iload 9 C dX6_laysAd_203 rfl ?_
            refine j_iast C (by decide) (ct_85 E) dX6_laysAd_205 ?_
            refine j_aload_n 3 C dX6_laysAd_206 rfl rfl ?_
            refine j_get 1 C fl6_13 (by decide) (ct_84 E _) rfl dX6_laysAd_207 ?_
            refine j_iconst (v := 1) 1 C dX6_laysAd_210 (by decide) ?_
            refine j_dup2 C dX6_laysAd_211 rfl rfl ?_
            refine j_iald C (by decide) (ct_85 E _) dX6_laysAd_212 ?_
            refine j_iconst (v := 1) 1 C dX6_laysAd_213 (by decide) ?_
            refine j_iadd C dX6_laysAd_214 ?_
            refine j_iast C (by decide) (ct_85 E) dX6_laysAd_215 ?_
            refine j_iload 1 C dX6_laysAd_216 rfl ?_
            exact j_iret C hr hlocks rfl dX6_laysAd_218 (Nat.le_of_ble_eq_true rfl) (Nat.le_of_ble_eq_true rfl)
          · exact j_sub [2] rfl (wJ118 σ112)
      · refine j_aload_n 1 C dX6_laysAd_83 rfl rfl ?_
        refine j_iconst (v := 2) 2 C dX6_laysAd_84 (by decide) ?_
        refine j_callVI [.int 2] (con6_fails N 2) C mi6_fails mv6_fails lk6_99 (by decide) (ct_84 E _) rfl rfl rfl ⟨Nat.le_of_ble_eq_true rfl, Nat.le_of_ble_eq_true rfl, Nat.le_of_ble_eq_true rfl, Nat.le_of_ble_eq_true rfl, Nat.le_of_ble_eq_true rfl⟩ dX6_laysAd_85 (fun r85 σ85 => ?_)
        exact j_iret C hr hlocks rfl dX6_laysAd_88 (Nat.le_of_ble_eq_true rfl) (Nat.le_of_ble_eq_true rfl)
    · refine j_aload_n 1 C dX6_laysAd_65 rfl rfl ?_
      refine j_iconst (v := 1) 1 C dX6_laysAd_66 (by decide) ?_
      refine j_callVI [.int 1] (con6_fails N 1) C mi6_fails mv6_fails lk6_99 (by decide) (ct_84 E _) rfl rfl rfl ⟨Nat.le_of_ble_eq_true rfl, Nat.le_of_ble_eq_true rfl, Nat.le_of_ble_eq_true rfl, Nat.le_of_ble_eq_true rfl, Nat.le_of_ble_eq_true rfl⟩ dX6_laysAd_67 (fun r67 σ67 => ?_)
      exact j_iret C hr hlocks rfl dX6_laysAd_70 (Nat.le_of_ble_eq_true rfl) (Nat.le_of_ble_eq_true rfl)
  have wJ57 : ∀ (σ : Hp), J E 10 p l e rm6_laysAd s m args below meth c (QI E below args s rm6_laysAd.cells rm6_laysAd.slots) (f6_laysAd_J57 N x1 x2 x3 x4 x5 x6 σ) 57 [(0, .ref (ea E 84)), (1, .int x1), (2, .int x2), (3, .int x3), (4, .int x4), (5, .int x5), (6, .int x6)] [] σ 0 0 := by
    intro σ
    unfold f6_laysAd_J57
    refine j_iconst (v := 0) 0 C dX6_laysAd_57 (by decide) ?_
    exact j_sub [0, 1, 2, 3, 4, 5, 6] rfl (wJ58 0 σ)
  unfold f6_laysAd
  refine j_iload_n 1 C dX6_laysAd_0 rfl rfl ?_
  refine j_iconst (v := 0) 0 C dX6_laysAd_1 (by decide) ?_
  refine j_iconst (v := 3) 3 C dX6_laysAd_2 (by decide) ?_
  refine j_callSI [.int x1, .int 0, .int 3] (con6_in N x1 0 3) C mi6_in ms6_in lk6_88 rfl rfl ⟨Nat.le_of_ble_eq_true rfl, Nat.le_of_ble_eq_true rfl, Nat.le_of_ble_eq_true rfl, Nat.le_of_ble_eq_true rfl, Nat.le_of_ble_eq_true rfl⟩ dX6_laysAd_3 (fun r3 σ3 => ?_)
  refine j_zeq 57 C dX6_laysAd_6 (by decide) ?_ ?_
  · exact j_sub [0, 1, 2, 3, 4, 5, 6] rfl (wJ57 σ3)
  · refine j_iload_n 2 C dX6_laysAd_9 rfl rfl ?_
    refine j_iconst (v := 0) 0 C dX6_laysAd_10 (by decide) ?_
    refine j_iconst (v := 4) 4 C dX6_laysAd_11 (by decide) ?_
    refine j_callSI [.int x2, .int 0, .int 4] (con6_in N x2 0 4) C mi6_in ms6_in lk6_88 rfl rfl ⟨Nat.le_of_ble_eq_true rfl, Nat.le_of_ble_eq_true rfl, Nat.le_of_ble_eq_true rfl, Nat.le_of_ble_eq_true rfl, Nat.le_of_ble_eq_true rfl⟩ dX6_laysAd_12 (fun r12 σ12 => ?_)
    refine j_zeq 57 C dX6_laysAd_15 (by decide) ?_ ?_
    · exact j_sub [0, 1, 2, 3, 4, 5, 6] rfl (wJ57 σ12)
    · refine j_iload_n 3 C dX6_laysAd_18 rfl rfl ?_
      refine j_iconst (v := 0) 0 C dX6_laysAd_19 (by decide) ?_
      refine j_bipush (v := 23) 23 C dX6_laysAd_20 (by decide) ?_
      refine j_callSI [.int x3, .int 0, .int 23] (con6_in N x3 0 23) C mi6_in ms6_in lk6_88 rfl rfl ⟨Nat.le_of_ble_eq_true rfl, Nat.le_of_ble_eq_true rfl, Nat.le_of_ble_eq_true rfl, Nat.le_of_ble_eq_true rfl, Nat.le_of_ble_eq_true rfl⟩ dX6_laysAd_22 (fun r22 σ22 => ?_)
      refine j_zeq 57 C dX6_laysAd_25 (by decide) ?_ ?_
      · exact j_sub [0, 1, 2, 3, 4, 5, 6] rfl (wJ57 σ22)
      · refine j_iload 4 C dX6_laysAd_28 rfl ?_
        refine j_iconst (v := 1) 1 C dX6_laysAd_30 (by decide) ?_
        refine j_iconst (v := 5) 5 C dX6_laysAd_31 (by decide) ?_
        refine j_iload_n 2 C dX6_laysAd_32 rfl rfl ?_
        refine j_isub C dX6_laysAd_33 ?_
        refine j_callSI [.int x4, .int 1, .int (5 - x2)] (con6_in N x4 1 (5 - x2)) C mi6_in ms6_in lk6_88 rfl rfl ⟨Nat.le_of_ble_eq_true rfl, Nat.le_of_ble_eq_true rfl, Nat.le_of_ble_eq_true rfl, Nat.le_of_ble_eq_true rfl, Nat.le_of_ble_eq_true rfl⟩ dX6_laysAd_34 (fun r34 σ34 => ?_)
        refine j_zeq 57 C dX6_laysAd_37 (by decide) ?_ ?_
        · exact j_sub [0, 1, 2, 3, 4, 5, 6] rfl (wJ57 σ34)
        · refine j_iload 5 C dX6_laysAd_40 rfl ?_
          refine j_iconst (v := 1) 1 C dX6_laysAd_42 (by decide) ?_
          refine j_bipush (v := 24) 24 C dX6_laysAd_43 (by decide) ?_
          refine j_iload_n 3 C dX6_laysAd_45 rfl rfl ?_
          refine j_isub C dX6_laysAd_46 ?_
          refine j_callSI [.int x5, .int 1, .int (24 - x3)] (con6_in N x5 1 (24 - x3)) C mi6_in ms6_in lk6_88 rfl rfl ⟨Nat.le_of_ble_eq_true rfl, Nat.le_of_ble_eq_true rfl, Nat.le_of_ble_eq_true rfl, Nat.le_of_ble_eq_true rfl, Nat.le_of_ble_eq_true rfl⟩ dX6_laysAd_47 (fun r47 σ47 => ?_)
          refine j_zeq 57 C dX6_laysAd_50 (by decide) ?_ ?_
          · exact j_sub [0, 1, 2, 3, 4, 5, 6] rfl (wJ57 σ47)
          · refine j_iconst (v := 1) 1 C dX6_laysAd_53 (by decide) ?_
            refine j_goto 58 C dX6_laysAd_54 (by decide) ?_
            exact j_sub [0, 1, 2, 3, 4, 5, 6] rfl (wJ58 1 σ47)
set_option maxHeartbeats 4000000 in
set_option maxRecDepth 100000 in
theorem con6_isNumber (N : Nat) (x0 : Int32) (x1 : Int32) : ConI yX6_isNumber cX6_isNumber 2 .boolean rm6_isNumber (fun E => [.int x0, .int x1]) (f6_isNumber N x0 x1) := by
  refine conI_of (L := fun E => [(0, .int x0), (1, .int x1)]) (by decide) (fun _ => Nat.le_of_ble_eq_true rfl) (fun _ => rfl) ?_
  intro l E σ p e s m args below meth c C hr hlocks
  unfold f6_isNumber
  refine j_iload_n 0 C dX6_isNumber_0 rfl rfl ?_
  refine j_ite (fun q1_0 => ?_) (fun q1_0 => ?_)
  · refine j_tin 36 C dX6_isNumber_1 q1_0 (by decide) (by decide) rfl (by decide) ?_
    refine j_iload_n 1 C dX6_isNumber_36 rfl rfl ?_
    refine j_iconst (v := 0) 0 C dX6_isNumber_37 (by decide) ?_
    refine j_iconst (v := 3) 3 C dX6_isNumber_38 (by decide) ?_
    refine j_callSI [.int x1, .int 0, .int 3] (con6_in N x1 0 3) C mi6_in ms6_in lk6_88 rfl rfl ⟨Nat.le_of_ble_eq_true rfl, Nat.le_of_ble_eq_true rfl, Nat.le_of_ble_eq_true rfl, Nat.le_of_ble_eq_true rfl, Nat.le_of_ble_eq_true rfl⟩ dX6_isNumber_39 (fun r39 σ39 => ?_)
    exact j_gd (fun hb => j_iret C hr hlocks (nrB hb) dX6_isNumber_42 (Nat.le_of_ble_eq_true rfl) (Nat.le_of_ble_eq_true rfl))
  refine j_ite (fun q1_1 => ?_) (fun q1_1 => ?_)
  · refine j_tin 43 C dX6_isNumber_1 q1_1 (by decide) (by decide) rfl (by decide) ?_
    refine j_iload_n 1 C dX6_isNumber_43 rfl rfl ?_
    refine j_iconst (v := 1) 1 C dX6_isNumber_44 (by decide) ?_
    refine j_iconst (v := 3) 3 C dX6_isNumber_45 (by decide) ?_
    refine j_callSI [.int x1, .int 1, .int 3] (con6_in N x1 1 3) C mi6_in ms6_in lk6_88 rfl rfl ⟨Nat.le_of_ble_eq_true rfl, Nat.le_of_ble_eq_true rfl, Nat.le_of_ble_eq_true rfl, Nat.le_of_ble_eq_true rfl, Nat.le_of_ble_eq_true rfl⟩ dX6_isNumber_46 (fun r46 σ46 => ?_)
    exact j_gd (fun hb => j_iret C hr hlocks (nrB hb) dX6_isNumber_49 (Nat.le_of_ble_eq_true rfl) (Nat.le_of_ble_eq_true rfl))
  refine j_ite (fun q1_2 => ?_) (fun q1_2 => ?_)
  · refine j_tin 43 C dX6_isNumber_1 q1_2 (by decide) (by decide) rfl (by decide) ?_
    refine j_iload_n 1 C dX6_isNumber_43 rfl rfl ?_
    refine j_iconst (v := 1) 1 C dX6_isNumber_44 (by decide) ?_
    refine j_iconst (v := 3) 3 C dX6_isNumber_45 (by decide) ?_
    refine j_callSI [.int x1, .int 1, .int 3] (con6_in N x1 1 3) C mi6_in ms6_in lk6_88 rfl rfl ⟨Nat.le_of_ble_eq_true rfl, Nat.le_of_ble_eq_true rfl, Nat.le_of_ble_eq_true rfl, Nat.le_of_ble_eq_true rfl, Nat.le_of_ble_eq_true rfl⟩ dX6_isNumber_46 (fun r46 σ46 => ?_)
    exact j_gd (fun hb => j_iret C hr hlocks (nrB hb) dX6_isNumber_49 (Nat.le_of_ble_eq_true rfl) (Nat.le_of_ble_eq_true rfl))
  refine j_ite (fun q1_3 => ?_) (fun q1_3 => ?_)
  · refine j_tin 50 C dX6_isNumber_1 q1_3 (by decide) (by decide) rfl (by decide) ?_
    refine j_iload_n 1 C dX6_isNumber_50 rfl rfl ?_
    refine j_iconst (v := 1) 1 C dX6_isNumber_51 (by decide) ?_
    refine j_sipush (v := 150) 150 C dX6_isNumber_52 (by decide) ?_
    refine j_callSI [.int x1, .int 1, .int 150] (con6_in N x1 1 150) C mi6_in ms6_in lk6_88 rfl rfl ⟨Nat.le_of_ble_eq_true rfl, Nat.le_of_ble_eq_true rfl, Nat.le_of_ble_eq_true rfl, Nat.le_of_ble_eq_true rfl, Nat.le_of_ble_eq_true rfl⟩ dX6_isNumber_55 (fun r55 σ55 => ?_)
    exact j_gd (fun hb => j_iret C hr hlocks (nrB hb) dX6_isNumber_58 (Nat.le_of_ble_eq_true rfl) (Nat.le_of_ble_eq_true rfl))
  refine j_ite (fun q1_4 => ?_) (fun q1_4 => ?_)
  · refine j_tin 59 C dX6_isNumber_1 q1_4 (by decide) (by decide) rfl (by decide) ?_
    refine j_iload_n 1 C dX6_isNumber_59 rfl rfl ?_
    refine j_iconst (v := 0) 0 C dX6_isNumber_60 (by decide) ?_
    refine j_bipush (v := 9) 9 C dX6_isNumber_61 (by decide) ?_
    refine j_callSI [.int x1, .int 0, .int 9] (con6_in N x1 0 9) C mi6_in ms6_in lk6_88 rfl rfl ⟨Nat.le_of_ble_eq_true rfl, Nat.le_of_ble_eq_true rfl, Nat.le_of_ble_eq_true rfl, Nat.le_of_ble_eq_true rfl, Nat.le_of_ble_eq_true rfl⟩ dX6_isNumber_63 (fun r63 σ63 => ?_)
    exact j_gd (fun hb => j_iret C hr hlocks (nrB hb) dX6_isNumber_66 (Nat.le_of_ble_eq_true rfl) (Nat.le_of_ble_eq_true rfl))
  refine j_tout 67 C dX6_isNumber_1 (by have h0 := lv_neT q1_0 (a := 0) (by decide); have h1 := lv_neT q1_1 (a := 1) (by decide); have h2 := lv_neT q1_2 (a := 2) (by decide); have h3 := lv_neT q1_3 (a := 3) (by decide); have h4 := lv_neT q1_4 (a := 4) (by decide); omega) (by decide) ?_
  refine j_iconst (v := 0) 0 C dX6_isNumber_67 (by decide) ?_
  exact j_iret C hr hlocks rfl dX6_isNumber_68 (Nat.le_of_ble_eq_true rfl) (Nat.le_of_ble_eq_true rfl)
set_option maxHeartbeats 4000000 in
set_option maxRecDepth 100000 in
theorem con6_laysStory (N : Nat) (x1 : Int32) (x2 : Int32) (x3 : Int32) (x4 : Int32) (x5 : Int32) : ConI yX6_laysStory cX6_laysStory 9 .int rm6_laysStory (fun E => [.ref (ea E 84), .int x1, .int x2, .int x3, .int x4, .int x5]) (f6_laysStory N x1 x2 x3 x4 x5) := by
  refine conI_of (L := fun E => [(0, .ref (ea E 84)), (1, .int x1), (2, .int x2), (3, .int x3), (4, .int x4), (5, .int x5)]) (by decide) (fun _ => Nat.le_of_ble_eq_true rfl) (fun _ => rfl) ?_
  intro l E σ p e s m args below meth c C hr hlocks
  have wL148 : ∀ (x6 : Int32) (x7 : Int32) (K148 : Hp → Option (Int32 × Hp)), (∀ (σ : Hp), J E 9 p l e rm6_laysStory s m args below meth c (QI E below args s rm6_laysStory.cells rm6_laysStory.slots) (K148 σ) 172 [(0, .ref (ea E 84)), (6, .int x6)] [] σ 0 0) → ∀ (n148 : Nat) (x8 : Int32) (σ : Hp), J E 9 p l e rm6_laysStory s m args below meth c (QI E below args s rm6_laysStory.cells rm6_laysStory.slots) (f6_laysStory_L148 N x1 x2 x3 x4 x5 x6 x7 K148 n148 x8 σ) 148 [(0, .ref (ea E 84)), (6, .int x6), (7, .int x7), (8, .int x8)] [] σ 0 0 := by
    intro x6 x7 K148 HK148 n148
    induction n148 with
    | zero => intro x8 σ; exact j_none
    | succ n148 ih148 =>
      intro x8 σ
      show J E 9 p l e rm6_laysStory s m args below meth c (QI E below args s rm6_laysStory.cells rm6_laysStory.slots) (f6_laysStory_B148 N x1 x2 x3 x4 x5 x6 x7 K148 (f6_laysStory_L148 N x1 x2 x3 x4 x5 x6 x7 K148 n148) x8 σ) 148 [(0, .ref (ea E 84)), (6, .int x6), (7, .int x7), (8, .int x8)] [] σ 0 0
      unfold f6_laysStory_B148
      refine j_iload 3 C dX6_laysStory_148 rfl ?_
      refine j_bipush (v := 9) 9 C dX6_laysStory_150 (by decide) ?_
      refine j_ige 172 C dX6_laysStory_152 (by decide) ?_ ?_
      · exact j_sub [0, 1] rfl (HK148 σ)
      · refine j_aload_n 0 C dX6_laysStory_155 rfl rfl ?_
        refine j_get 1 C fl6_13 (by decide) (ct_84 E _) rfl dX6_laysStory_156 ?_
        refine j_iload 2 C dX6_laysStory_159 rfl ?_
        refine j_iload 3 C dX6_laysStory_161 rfl ?_
        refine j_iadd C dX6_laysStory_163 ?_
        refine j_iconst (v := 0) 0 C dX6_laysStory_164 (by decide) ?_
        refine j_iast C (by decide) (ct_85 E) dX6_laysStory_165 ?_
        refine j_iinc 3 1 [(8, .int (x8 + 1)), (0, .ref (ea E 84)), (6, .int x6), (7, .int x7)] C dX6_laysStory_166 rfl rfl (by decide) rfl ?_
        refine j_goto 148 C dX6_laysStory_169 (by decide) ?_
        exact j_sub [1, 2, 3, 0] rfl (ih148 (x8 + 1) (st σ 85 (x7 + x8).toNatClampNeg 0))
  have wJ48 : ∀ (σ : Hp), J E 9 p l e rm6_laysStory s m args below meth c (QI E below args s rm6_laysStory.cells rm6_laysStory.slots) (f6_laysStory_J48 N x1 x2 x3 x4 x5 σ) 48 [(0, .ref (ea E 84))] [] σ 0 0 := by
    intro σ
    unfold f6_laysStory_J48
    refine j_aload_n 0 C dX6_laysStory_48 rfl rfl ?_
    refine j_iconst (v := 2) 2 C dX6_laysStory_49 (by decide) ?_
    refine j_callVI [.int 2] (con6_fails N 2) C mi6_fails mv6_fails lk6_99 (by decide) (ct_84 E _) rfl rfl rfl ⟨Nat.le_of_ble_eq_true rfl, Nat.le_of_ble_eq_true rfl, Nat.le_of_ble_eq_true rfl, Nat.le_of_ble_eq_true rfl, Nat.le_of_ble_eq_true rfl⟩ dX6_laysStory_50 (fun r50 σ50 => ?_)
    exact j_iret C hr hlocks rfl dX6_laysStory_53 (Nat.le_of_ble_eq_true rfl) (Nat.le_of_ble_eq_true rfl)
  unfold f6_laysStory
  refine j_iconst (v := 0) 0 C dX6_laysStory_0 (by decide) ?_
  refine j_iload_n 1 C dX6_laysStory_1 rfl rfl ?_
  refine j_callSI [.int 0, .int x1] (con6_isNumber N 0 x1) C mi6_isNumber ms6_isNumber lk6_107 rfl rfl ⟨Nat.le_of_ble_eq_true rfl, Nat.le_of_ble_eq_true rfl, Nat.le_of_ble_eq_true rfl, Nat.le_of_ble_eq_true rfl, Nat.le_of_ble_eq_true rfl⟩ dX6_laysStory_2 (fun r2 σ2 => ?_)
  refine j_zne 14 C dX6_laysStory_5 (by decide) ?_ ?_
  · refine j_iconst (v := 1) 1 C dX6_laysStory_14 (by decide) ?_
    refine j_iload_n 2 C dX6_laysStory_15 rfl rfl ?_
    refine j_callSI [.int 1, .int x2] (con6_isNumber N 1 x2) C mi6_isNumber ms6_isNumber lk6_107 rfl rfl ⟨Nat.le_of_ble_eq_true rfl, Nat.le_of_ble_eq_true rfl, Nat.le_of_ble_eq_true rfl, Nat.le_of_ble_eq_true rfl, Nat.le_of_ble_eq_true rfl⟩ dX6_laysStory_16 (fun r16 σ16 => ?_)
    refine j_zeq 48 C dX6_laysStory_19 (by decide) ?_ ?_
    · exact j_sub [0] rfl (wJ48 σ16)
    · refine j_iconst (v := 2) 2 C dX6_laysStory_22 (by decide) ?_
      refine j_iload_n 3 C dX6_laysStory_23 rfl rfl ?_
      refine j_callSI [.int 2, .int x3] (con6_isNumber N 2 x3) C mi6_isNumber ms6_isNumber lk6_107 rfl rfl ⟨Nat.le_of_ble_eq_true rfl, Nat.le_of_ble_eq_true rfl, Nat.le_of_ble_eq_true rfl, Nat.le_of_ble_eq_true rfl, Nat.le_of_ble_eq_true rfl⟩ dX6_laysStory_24 (fun r24 σ24 => ?_)
      refine j_zeq 48 C dX6_laysStory_27 (by decide) ?_ ?_
      · exact j_sub [0] rfl (wJ48 σ24)
      · refine j_iconst (v := 3) 3 C dX6_laysStory_30 (by decide) ?_
        refine j_iload 4 C dX6_laysStory_31 rfl ?_
        refine j_callSI [.int 3, .int x4] (con6_isNumber N 3 x4) C mi6_isNumber ms6_isNumber lk6_107 rfl rfl ⟨Nat.le_of_ble_eq_true rfl, Nat.le_of_ble_eq_true rfl, Nat.le_of_ble_eq_true rfl, Nat.le_of_ble_eq_true rfl, Nat.le_of_ble_eq_true rfl⟩ dX6_laysStory_33 (fun r33 σ33 => ?_)
        refine j_zeq 48 C dX6_laysStory_36 (by decide) ?_ ?_
        · exact j_sub [0] rfl (wJ48 σ33)
        · refine j_iconst (v := 4) 4 C dX6_laysStory_39 (by decide) ?_
          refine j_iload 5 C dX6_laysStory_40 rfl ?_
          refine j_callSI [.int 4, .int x5] (con6_isNumber N 4 x5) C mi6_isNumber ms6_isNumber lk6_107 rfl rfl ⟨Nat.le_of_ble_eq_true rfl, Nat.le_of_ble_eq_true rfl, Nat.le_of_ble_eq_true rfl, Nat.le_of_ble_eq_true rfl, Nat.le_of_ble_eq_true rfl⟩ dX6_laysStory_42 (fun r42 σ42 => ?_)
          refine j_zne 54 C dX6_laysStory_45 (by decide) ?_ ?_
          · refine j_aload_n 0 C dX6_laysStory_54 rfl rfl ?_
            refine j_get 1 C fl6_13 (by decide) (ct_84 E _) rfl dX6_laysStory_55 ?_
            refine j_iconst (v := 0) 0 C dX6_laysStory_58 (by decide) ?_
            refine j_iald C (by decide) (ct_85 E _) dX6_laysStory_59 ?_
            refine j_istore [(6, .int (σ42 85 (0 : Int32).toNatClampNeg)), (0, .ref (ea E 84)), (1, .int x1), (2, .int x2), (3, .int x3), (4, .int x4), (5, .int x5)] C dX6_laysStory_60 (by decide) rfl ?_
            refine j_iload 0 C dX6_laysStory_62 rfl ?_
            refine j_bipush (v := 12) 12 C dX6_laysStory_64 (by decide) ?_
            refine j_ine 75 C dX6_laysStory_66 (by decide) ?_ ?_
            · refine j_iconst (v := 2) 2 C dX6_laysStory_75 (by decide) ?_
              refine j_bipush (v := 9) 9 C dX6_laysStory_76 (by decide) ?_
              refine j_iload 0 C dX6_laysStory_78 rfl ?_
              refine j_imul C dX6_laysStory_80 ?_
              refine j_iadd C dX6_laysStory_81 ?_
              refine j_istore [(7, .int (2 + (9 * (σ42 85 (0 : Int32).toNatClampNeg)))), (6, .int (σ42 85 (0 : Int32).toNatClampNeg)), (0, .ref (ea E 84)), (1, .int x1), (2, .int x2), (3, .int x3), (4, .int x4), (5, .int x5)] C dX6_laysStory_82 (by decide) rfl ?_
              refine j_aload_n 2 C dX6_laysStory_84 rfl rfl ?_
              refine j_get 1 C fl6_13 (by decide) (ct_84 E _) rfl dX6_laysStory_85 ?_
              refine j_iload 0 C dX6_laysStory_88 rfl ?_
              refine j_iconst (v := 1) 1 C dX6_laysStory_90 (by decide) ?_
              refine j_iast C (by decide) (ct_85 E) dX6_laysStory_91 ?_
              refine j_aload_n 2 C dX6_laysStory_92 rfl rfl ?_
              refine j_get 1 C fl6_13 (by decide) (ct_84 E _) rfl dX6_laysStory_93 ?_
              refine j_iload 0 C dX6_laysStory_96 rfl ?_
              refine j_iconst (v := 1) 1 C dX6_laysStory_98 (by decide) ?_
              refine j_iadd C dX6_laysStory_99 ?_
              refine j_iload_n 3 C dX6_laysStory_100 rfl rfl ?_
              refine j_iast C (by decide) (ct_85 E) dX6_laysStory_101 ?_
              refine j_aload_n 2 C dX6_laysStory_102 rfl rfl ?_
              refine j_get 1 C fl6_13 (by decide) (ct_84 E _) rfl dX6_laysStory_103 ?_
              refine j_iload 0 C dX6_laysStory_106 rfl ?_
              refine j_iconst (v := 2) 2 C dX6_laysStory_108 (by decide) ?_
              refine j_iadd C dX6_laysStory_109 ?_
              refine j_iload_n 4 C dX6_laysStory_110 rfl rfl ?_
              refine j_iast C (by decide) (ct_85 E) dX6_laysStory_111 ?_
              refine j_aload_n 2 C dX6_laysStory_112 rfl rfl ?_
              refine j_get 1 C fl6_13 (by decide) (ct_84 E _) rfl dX6_laysStory_113 ?_
              refine j_iload 0 C dX6_laysStory_116 rfl ?_
              refine j_iconst (v := 3) 3 C dX6_laysStory_118 (by decide) ?_
              refine j_iadd C dX6_laysStory_119 ?_
              refine j_iload_n 5 C dX6_laysStory_120 rfl rfl ?_
              refine j_iast C (by decide) (ct_85 E) dX6_laysStory_121 ?_
              refine j_aload_n 2 C dX6_laysStory_122 rfl rfl ?_
              refine j_get 1 C fl6_13 (by decide) (ct_84 E _) rfl dX6_laysStory_123 ?_
              refine j_iload 0 C dX6_laysStory_126 rfl ?_
              refine j_iconst (v := 4) 4 C dX6_laysStory_128 (by decide) ?_
              refine j_iadd C dX6_laysStory_129 ?_
              refine j_iload 6 C dX6_laysStory_130 rfl ?_
              refine j_iast C (by decide) (ct_85 E) dX6_laysStory_132 ?_
              refine j_aload_n 2 C dX6_laysStory_133 rfl rfl ?_
              refine j_get 1 C fl6_13 (by decide) (ct_84 E _) rfl dX6_laysStory_134 ?_
              refine j_iload 0 C dX6_laysStory_137 rfl ?_
              refine j_iconst (v := 5) 5 C dX6_laysStory_139 (by decide) ?_
              refine j_iadd C dX6_laysStory_140 ?_
              refine j_iload 7 C dX6_laysStory_141 rfl ?_
              refine j_iast C (by decide) (ct_85 E) dX6_laysStory_143 ?_
              refine j_bipush (v := 6) 6 C dX6_laysStory_144 (by decide) ?_
              refine j_istore [(8, .int 6), (7, .int (2 + (9 * (σ42 85 (0 : Int32).toNatClampNeg)))), (6, .int (σ42 85 (0 : Int32).toNatClampNeg)), (0, .ref (ea E 84)), (1, .int x1), (2, .int x2), (3, .int x3), (4, .int x4), (5, .int x5)] C dX6_laysStory_146 (by decide) rfl ?_
              refine j_sub [3, 2, 1, 0] rfl (wL148 (σ42 85 (0 : Int32).toNatClampNeg) (2 + (9 * (σ42 85 (0 : Int32).toNatClampNeg))) _ (fun σL148 => ?_) N 6 (st (st (st (st (st (st σ42 85 (2 + (9 * (σ42 85 (0 : Int32).toNatClampNeg))).toNatClampNeg 1) 85 ((2 + (9 * (σ42 85 (0 : Int32).toNatClampNeg))) + 1).toNatClampNeg x1) 85 ((2 + (9 * (σ42 85 (0 : Int32).toNatClampNeg))) + 2).toNatClampNeg x2) 85 ((2 + (9 * (σ42 85 (0 : Int32).toNatClampNeg))) + 3).toNatClampNeg x3) 85 ((2 + (9 * (σ42 85 (0 : Int32).toNatClampNeg))) + 4).toNatClampNeg x4) 85 ((2 + (9 * (σ42 85 (0 : Int32).toNatClampNeg))) + 5).toNatClampNeg x5))
              refine j_aload_n 0 C dX6_laysStory_172 rfl rfl ?_
              refine j_get 1 C fl6_13 (by decide) (ct_84 E _) rfl dX6_laysStory_173 ?_
              refine j_iconst (v := 0) 0 C dX6_laysStory_176 (by decide) ?_
              refine j_dup2 C dX6_laysStory_177 rfl rfl ?_
              refine j_iald C (by decide) (ct_85 E _) dX6_laysStory_178 ?_
              refine j_iconst (v := 1) 1 C dX6_laysStory_179 (by decide) ?_
              refine j_iadd C dX6_laysStory_180 ?_
              refine j_iast C (by decide) (ct_85 E) dX6_laysStory_181 ?_
              refine j_iload 1 C dX6_laysStory_182 rfl ?_
              exact j_iret C hr hlocks rfl dX6_laysStory_184 (Nat.le_of_ble_eq_true rfl) (Nat.le_of_ble_eq_true rfl)
            · refine j_aload_n 1 C dX6_laysStory_69 rfl rfl ?_
              refine j_iconst (v := 3) 3 C dX6_laysStory_70 (by decide) ?_
              refine j_callVI [.int 3] (con6_fails N 3) C mi6_fails mv6_fails lk6_99 (by decide) (ct_84 E _) rfl rfl rfl ⟨Nat.le_of_ble_eq_true rfl, Nat.le_of_ble_eq_true rfl, Nat.le_of_ble_eq_true rfl, Nat.le_of_ble_eq_true rfl, Nat.le_of_ble_eq_true rfl⟩ dX6_laysStory_71 (fun r71 σ71 => ?_)
              exact j_iret C hr hlocks rfl dX6_laysStory_74 (Nat.le_of_ble_eq_true rfl) (Nat.le_of_ble_eq_true rfl)
          · exact j_sub [0] rfl (wJ48 σ42)
  · refine j_aload_n 0 C dX6_laysStory_8 rfl rfl ?_
    refine j_iconst (v := 1) 1 C dX6_laysStory_9 (by decide) ?_
    refine j_callVI [.int 1] (con6_fails N 1) C mi6_fails mv6_fails lk6_99 (by decide) (ct_84 E _) rfl rfl rfl ⟨Nat.le_of_ble_eq_true rfl, Nat.le_of_ble_eq_true rfl, Nat.le_of_ble_eq_true rfl, Nat.le_of_ble_eq_true rfl, Nat.le_of_ble_eq_true rfl⟩ dX6_laysStory_10 (fun r10 σ10 => ?_)
    exact j_iret C hr hlocks rfl dX6_laysStory_13 (Nat.le_of_ble_eq_true rfl) (Nat.le_of_ble_eq_true rfl)
set_option maxHeartbeats 4000000 in
set_option maxRecDepth 100000 in
theorem con6_laysPhoto (N : Nat) (x1 : Int32) (x2 : Int32) (x3 : Int32) : ConI yX6_laysPhoto cX6_laysPhoto 6 .int rm6_laysPhoto (fun E => [.ref (ea E 84), .int x1, .int x2, .int x3]) (f6_laysPhoto N x1 x2 x3) := by
  refine conI_of (L := fun E => [(0, .ref (ea E 84)), (1, .int x1), (2, .int x2), (3, .int x3)]) (by decide) (fun _ => Nat.le_of_ble_eq_true rfl) (fun _ => rfl) ?_
  intro l E σ p e s m args below meth c C hr hlocks
  have wJ54 : ∀ (y0 : Int32) (σ : Hp), J E 6 p l e rm6_laysPhoto s m args below meth c (QI E below args s rm6_laysPhoto.cells rm6_laysPhoto.slots) (f6_laysPhoto_J54 N x1 x2 x3 y0 σ) 54 [(0, .ref (ea E 84)), (1, .int x1), (2, .int x2), (3, .int x3)] [.int y0] σ 0 0 := by
    intro y0 σ
    unfold f6_laysPhoto_J54
    refine j_istore [(4, .int y0), (0, .ref (ea E 84)), (1, .int x1), (2, .int x2), (3, .int x3)] C dX6_laysPhoto_54 (by decide) rfl ?_
    refine j_iload 0 C dX6_laysPhoto_56 rfl ?_
    refine j_zne 67 C dX6_laysPhoto_58 (by decide) ?_ ?_
    · refine j_aload_n 1 C dX6_laysPhoto_67 rfl rfl ?_
      refine j_iload_n 2 C dX6_laysPhoto_68 rfl rfl ?_
      refine j_bipush (v := 6) 6 C dX6_laysPhoto_69 (by decide) ?_
      refine j_callVI [.int x1, .int 6] (con6_of N x1 6) C mi6_of mv6_of lk6_92 (by decide) (ct_84 E _) rfl rfl rfl ⟨Nat.le_of_ble_eq_true rfl, Nat.le_of_ble_eq_true rfl, Nat.le_of_ble_eq_true rfl, Nat.le_of_ble_eq_true rfl, Nat.le_of_ble_eq_true rfl⟩ dX6_laysPhoto_71 (fun r71 σ71 => ?_)
      refine j_istore [(5, .int r71), (4, .int y0), (0, .ref (ea E 84)), (1, .int x1), (2, .int x2), (3, .int x3)] C dX6_laysPhoto_74 (by decide) rfl ?_
      refine j_aload_n 2 C dX6_laysPhoto_76 rfl rfl ?_
      refine j_get 1 C fl6_13 (by decide) (ct_84 E _) rfl dX6_laysPhoto_77 ?_
      refine j_iconst (v := 2) 2 C dX6_laysPhoto_80 (by decide) ?_
      refine j_bipush (v := 9) 9 C dX6_laysPhoto_81 (by decide) ?_
      refine j_iload_n 3 C dX6_laysPhoto_83 rfl rfl ?_
      refine j_imul C dX6_laysPhoto_84 ?_
      refine j_iadd C dX6_laysPhoto_85 ?_
      refine j_bipush (v := 6) 6 C dX6_laysPhoto_86 (by decide) ?_
      refine j_iadd C dX6_laysPhoto_88 ?_
      refine j_iload_n 4 C dX6_laysPhoto_89 rfl rfl ?_
      refine j_iast C (by decide) (ct_85 E) dX6_laysPhoto_90 ?_
      refine j_aload_n 2 C dX6_laysPhoto_91 rfl rfl ?_
      refine j_get 1 C fl6_13 (by decide) (ct_84 E _) rfl dX6_laysPhoto_92 ?_
      refine j_iconst (v := 2) 2 C dX6_laysPhoto_95 (by decide) ?_
      refine j_bipush (v := 9) 9 C dX6_laysPhoto_96 (by decide) ?_
      refine j_iload_n 3 C dX6_laysPhoto_98 rfl rfl ?_
      refine j_imul C dX6_laysPhoto_99 ?_
      refine j_iadd C dX6_laysPhoto_100 ?_
      refine j_bipush (v := 7) 7 C dX6_laysPhoto_101 (by decide) ?_
      refine j_iadd C dX6_laysPhoto_103 ?_
      refine j_iload_n 5 C dX6_laysPhoto_104 rfl rfl ?_
      refine j_iast C (by decide) (ct_85 E) dX6_laysPhoto_105 ?_
      refine j_iload 0 C dX6_laysPhoto_106 rfl ?_
      exact j_iret C hr hlocks rfl dX6_laysPhoto_108 (Nat.le_of_ble_eq_true rfl) (Nat.le_of_ble_eq_true rfl)
    · refine j_aload_n 1 C dX6_laysPhoto_61 rfl rfl ?_
      refine j_iconst (v := 2) 2 C dX6_laysPhoto_62 (by decide) ?_
      refine j_callVI [.int 2] (con6_fails N 2) C mi6_fails mv6_fails lk6_99 (by decide) (ct_84 E _) rfl rfl rfl ⟨Nat.le_of_ble_eq_true rfl, Nat.le_of_ble_eq_true rfl, Nat.le_of_ble_eq_true rfl, Nat.le_of_ble_eq_true rfl, Nat.le_of_ble_eq_true rfl⟩ dX6_laysPhoto_63 (fun r63 σ63 => ?_)
      exact j_iret C hr hlocks rfl dX6_laysPhoto_66 (Nat.le_of_ble_eq_true rfl) (Nat.le_of_ble_eq_true rfl)
  have wJ53 : ∀ (σ : Hp), J E 6 p l e rm6_laysPhoto s m args below meth c (QI E below args s rm6_laysPhoto.cells rm6_laysPhoto.slots) (f6_laysPhoto_J53 N x1 x2 x3 σ) 53 [(0, .ref (ea E 84)), (1, .int x1), (2, .int x2), (3, .int x3)] [] σ 0 0 := by
    intro σ
    unfold f6_laysPhoto_J53
    refine j_iconst (v := 0) 0 C dX6_laysPhoto_53 (by decide) ?_
    exact j_sub [0, 1, 2, 3] rfl (wJ54 0 σ)
  unfold f6_laysPhoto
  refine j_aload_n 0 C dX6_laysPhoto_0 rfl rfl ?_
  refine j_iload_n 1 C dX6_laysPhoto_1 rfl rfl ?_
  refine j_callVI [.int x1] (con6_isStory N x1) C mi6_isStory mv6_isStory lk6_111 (by decide) (ct_84 E _) rfl rfl rfl ⟨Nat.le_of_ble_eq_true rfl, Nat.le_of_ble_eq_true rfl, Nat.le_of_ble_eq_true rfl, Nat.le_of_ble_eq_true rfl, Nat.le_of_ble_eq_true rfl⟩ dX6_laysPhoto_2 (fun r2 σ2 => ?_)
  refine j_zne 14 C dX6_laysPhoto_5 (by decide) ?_ ?_
  · refine j_iload_n 2 C dX6_laysPhoto_14 rfl rfl ?_
    refine j_zne 30 C dX6_laysPhoto_15 (by decide) ?_ ?_
    · refine j_iload_n 2 C dX6_laysPhoto_30 rfl rfl ?_
      refine j_iconst (v := 2) 2 C dX6_laysPhoto_31 (by decide) ?_
      refine j_bipush (v := 8) 8 C dX6_laysPhoto_32 (by decide) ?_
      refine j_callSI [.int x2, .int 2, .int 8] (con6_in N x2 2 8) C mi6_in ms6_in lk6_88 rfl rfl ⟨Nat.le_of_ble_eq_true rfl, Nat.le_of_ble_eq_true rfl, Nat.le_of_ble_eq_true rfl, Nat.le_of_ble_eq_true rfl, Nat.le_of_ble_eq_true rfl⟩ dX6_laysPhoto_34 (fun r34 σ34 => ?_)
      refine j_zeq 53 C dX6_laysPhoto_37 (by decide) ?_ ?_
      · exact j_sub [0, 1, 2, 3] rfl (wJ53 σ34)
      · refine j_iload_n 3 C dX6_laysPhoto_40 rfl rfl ?_
        refine j_iconst (v := 0) 0 C dX6_laysPhoto_41 (by decide) ?_
        refine j_iconst (v := 2) 2 C dX6_laysPhoto_42 (by decide) ?_
        refine j_callSI [.int x3, .int 0, .int 2] (con6_in N x3 0 2) C mi6_in ms6_in lk6_88 rfl rfl ⟨Nat.le_of_ble_eq_true rfl, Nat.le_of_ble_eq_true rfl, Nat.le_of_ble_eq_true rfl, Nat.le_of_ble_eq_true rfl, Nat.le_of_ble_eq_true rfl⟩ dX6_laysPhoto_43 (fun r43 σ43 => ?_)
        refine j_zeq 53 C dX6_laysPhoto_46 (by decide) ?_ ?_
        · exact j_sub [0, 1, 2, 3] rfl (wJ53 σ43)
        · refine j_iconst (v := 1) 1 C dX6_laysPhoto_49 (by decide) ?_
          refine j_goto 54 C dX6_laysPhoto_50 (by decide) ?_
          exact j_sub [0, 1, 2, 3] rfl (wJ54 1 σ43)
    · refine j_iload_n 3 C dX6_laysPhoto_18 rfl rfl ?_
      refine j_zne 26 C dX6_laysPhoto_19 (by decide) ?_ ?_
      · refine j_iconst (v := 0) 0 C dX6_laysPhoto_26 (by decide) ?_
        refine j_goto 54 C dX6_laysPhoto_27 (by decide) ?_
        exact j_sub [0, 1, 2, 3] rfl (wJ54 0 σ2)
      · refine j_iconst (v := 1) 1 C dX6_laysPhoto_22 (by decide) ?_
        refine j_goto 54 C dX6_laysPhoto_23 (by decide) ?_
        exact j_sub [0, 1, 2, 3] rfl (wJ54 1 σ2)
  · refine j_aload_n 0 C dX6_laysPhoto_8 rfl rfl ?_
    refine j_iconst (v := 1) 1 C dX6_laysPhoto_9 (by decide) ?_
    refine j_callVI [.int 1] (con6_fails N 1) C mi6_fails mv6_fails lk6_99 (by decide) (ct_84 E _) rfl rfl rfl ⟨Nat.le_of_ble_eq_true rfl, Nat.le_of_ble_eq_true rfl, Nat.le_of_ble_eq_true rfl, Nat.le_of_ble_eq_true rfl, Nat.le_of_ble_eq_true rfl⟩ dX6_laysPhoto_10 (fun r10 σ10 => ?_)
    exact j_iret C hr hlocks rfl dX6_laysPhoto_13 (Nat.le_of_ble_eq_true rfl) (Nat.le_of_ble_eq_true rfl)
set_option maxHeartbeats 4000000 in
set_option maxRecDepth 100000 in
theorem con6_laysLate (N : Nat) (x1 : Int32) (x2 : Int32) : ConI yX6_laysLate cX6_laysLate 4 .int rm6_laysLate (fun E => [.ref (ea E 84), .int x1, .int x2]) (f6_laysLate N x1 x2) := by
  refine conI_of (L := fun E => [(0, .ref (ea E 84)), (1, .int x1), (2, .int x2)]) (by decide) (fun _ => Nat.le_of_ble_eq_true rfl) (fun _ => rfl) ?_
  intro l E σ p e s m args below meth c C hr hlocks
  unfold f6_laysLate
  refine j_aload_n 0 C dX6_laysLate_0 rfl rfl ?_
  refine j_iload_n 1 C dX6_laysLate_1 rfl rfl ?_
  refine j_callVI [.int x1] (con6_isStory N x1) C mi6_isStory mv6_isStory lk6_111 (by decide) (ct_84 E _) rfl rfl rfl ⟨Nat.le_of_ble_eq_true rfl, Nat.le_of_ble_eq_true rfl, Nat.le_of_ble_eq_true rfl, Nat.le_of_ble_eq_true rfl, Nat.le_of_ble_eq_true rfl⟩ dX6_laysLate_2 (fun r2 σ2 => ?_)
  refine j_zne 14 C dX6_laysLate_5 (by decide) ?_ ?_
  · refine j_aload_n 0 C dX6_laysLate_14 rfl rfl ?_
    refine j_iload_n 1 C dX6_laysLate_15 rfl rfl ?_
    refine j_bipush (v := 8) 8 C dX6_laysLate_16 (by decide) ?_
    refine j_callVI [.int x1, .int 8] (con6_of N x1 8) C mi6_of mv6_of lk6_92 (by decide) (ct_84 E _) rfl rfl rfl ⟨Nat.le_of_ble_eq_true rfl, Nat.le_of_ble_eq_true rfl, Nat.le_of_ble_eq_true rfl, Nat.le_of_ble_eq_true rfl, Nat.le_of_ble_eq_true rfl⟩ dX6_laysLate_18 (fun r18 σ18 => ?_)
    refine j_istore_n [(3, .int r18), (0, .ref (ea E 84)), (1, .int x1), (2, .int x2)] C dX6_laysLate_21 rfl (by decide) rfl ?_
    refine j_aload_n 1 C dX6_laysLate_22 rfl rfl ?_
    refine j_get 1 C fl6_13 (by decide) (ct_84 E _) rfl dX6_laysLate_23 ?_
    refine j_iconst (v := 2) 2 C dX6_laysLate_26 (by decide) ?_
    refine j_bipush (v := 9) 9 C dX6_laysLate_27 (by decide) ?_
    refine j_iload_n 2 C dX6_laysLate_29 rfl rfl ?_
    refine j_imul C dX6_laysLate_30 ?_
    refine j_iadd C dX6_laysLate_31 ?_
    refine j_bipush (v := 8) 8 C dX6_laysLate_32 (by decide) ?_
    refine j_iadd C dX6_laysLate_34 ?_
    refine j_iload_n 3 C dX6_laysLate_35 rfl rfl ?_
    refine j_iast C (by decide) (ct_85 E) dX6_laysLate_36 ?_
    refine j_iload_n 0 C dX6_laysLate_37 rfl rfl ?_
    exact j_iret C hr hlocks rfl dX6_laysLate_38 (Nat.le_of_ble_eq_true rfl) (Nat.le_of_ble_eq_true rfl)
  · refine j_aload_n 0 C dX6_laysLate_8 rfl rfl ?_
    refine j_iconst (v := 1) 1 C dX6_laysLate_9 (by decide) ?_
    refine j_callVI [.int 1] (con6_fails N 1) C mi6_fails mv6_fails lk6_99 (by decide) (ct_84 E _) rfl rfl rfl ⟨Nat.le_of_ble_eq_true rfl, Nat.le_of_ble_eq_true rfl, Nat.le_of_ble_eq_true rfl, Nat.le_of_ble_eq_true rfl, Nat.le_of_ble_eq_true rfl⟩ dX6_laysLate_10 (fun r10 σ10 => ?_)
    exact j_iret C hr hlocks rfl dX6_laysLate_13 (Nat.le_of_ble_eq_true rfl) (Nat.le_of_ble_eq_true rfl)
set_option maxHeartbeats 4000000 in
set_option maxRecDepth 100000 in
theorem con6_begins (N : Nat) : ConV yX6_begins cX6_begins 1 rm6_begins (fun E => [.ref (ea E 84)]) (f6_begins N) := by
  refine conV_of (L := fun E => [(0, .ref (ea E 84))]) (by decide) (fun _ => Nat.le_of_ble_eq_true rfl) (fun _ => rfl) ?_
  intro l E σ p e s m args below meth c C hr hlocks
  unfold f6_begins
  refine j_aload_n 0 C dX6_begins_0 rfl rfl ?_
  refine j_iconst (v := 0) 0 C dX6_begins_1 (by decide) ?_
  refine j_put 0 C fl6_3 rfl rfl rfl (by decide) (ct_84 E _) (Nat.le_of_ble_eq_true rfl) (ct_84 E _) dX6_begins_2 ?_
  refine j_aload_n 0 C dX6_begins_5 rfl rfl ?_
  refine j_callVV [] (con6_keeps N) C mi6_keeps mv6_keeps lk6_115 (by decide) (ct_84 E _) rfl rfl rfl ⟨Nat.le_of_ble_eq_true rfl, Nat.le_of_ble_eq_true rfl, Nat.le_of_ble_eq_true rfl, Nat.le_of_ble_eq_true rfl, Nat.le_of_ble_eq_true rfl⟩ dX6_begins_6 (fun σ6 => ?_)
  exact j_vret C hr hlocks dX6_begins_9 (Nat.le_of_ble_eq_true rfl) (Nat.le_of_ble_eq_true rfl)
set_option maxHeartbeats 4000000 in
set_option maxRecDepth 100000 in
theorem con6_ends (N : Nat) (x1 : Int32) : ConI yX6_ends cX6_ends 2 .int rm6_ends (fun E => [.ref (ea E 84), .int x1]) (f6_ends N x1) := by
  refine conI_of (L := fun E => [(0, .ref (ea E 84)), (1, .int x1)]) (by decide) (fun _ => Nat.le_of_ble_eq_true rfl) (fun _ => rfl) ?_
  intro l E σ p e s m args below meth c C hr hlocks
  unfold f6_ends
  refine j_aload_n 0 C dX6_ends_0 rfl rfl ?_
  refine j_get 0 C fl6_3 (by decide) (ct_84 E _) rfl dX6_ends_1 ?_
  refine j_zne 11 C dX6_ends_4 (by decide) ?_ ?_
  · refine j_iload_n 1 C dX6_ends_11 rfl rfl ?_
    exact j_iret C hr hlocks rfl dX6_ends_12 (Nat.le_of_ble_eq_true rfl) (Nat.le_of_ble_eq_true rfl)
  · refine j_aload_n 0 C dX6_ends_7 rfl rfl ?_
    refine j_callVV [] (con6_changes N) C mi6_changes mv6_changes lk6_118 (by decide) (ct_84 E _) rfl rfl rfl ⟨Nat.le_of_ble_eq_true rfl, Nat.le_of_ble_eq_true rfl, Nat.le_of_ble_eq_true rfl, Nat.le_of_ble_eq_true rfl, Nat.le_of_ble_eq_true rfl⟩ dX6_ends_8 (fun σ8 => ?_)
    refine j_iload_n 1 C dX6_ends_11 rfl rfl ?_
    exact j_iret C hr hlocks rfl dX6_ends_12 (Nat.le_of_ble_eq_true rfl) (Nat.le_of_ble_eq_true rfl)
set_option maxHeartbeats 4000000 in
set_option maxRecDepth 100000 in
theorem con6_addAdvertisement (N : Nat) (x1 : Int32) (x2 : Int32) (x3 : Int32) (x4 : Int32) (x5 : Int32) (x6 : Int32) : ConI yX6_addAdvertisement cX6_addAdvertisement 7 .int rm6_addAdvertisement (fun E => [.ref (ea E 84), .int x1, .int x2, .int x3, .int x4, .int x5, .int x6]) (f6_addAdvertisement N x1 x2 x3 x4 x5 x6) := by
  refine conI_of (L := fun E => [(0, .ref (ea E 84)), (1, .int x1), (2, .int x2), (3, .int x3), (4, .int x4), (5, .int x5), (6, .int x6)]) (by decide) (fun _ => Nat.le_of_ble_eq_true rfl) (fun _ => rfl) ?_
  intro l E σ p e s m args below meth c C hr hlocks
  unfold f6_addAdvertisement
  refine j_aload_n 0 C dX6_addAdvertisement_0 rfl rfl ?_
  refine j_callVV [] (con6_begins N) C mi6_begins mv6_begins lk6_120 (by decide) (ct_84 E _) rfl rfl rfl ⟨Nat.le_of_ble_eq_true rfl, Nat.le_of_ble_eq_true rfl, Nat.le_of_ble_eq_true rfl, Nat.le_of_ble_eq_true rfl, Nat.le_of_ble_eq_true rfl⟩ dX6_addAdvertisement_1 (fun σ1 => ?_)
  refine j_aload_n 0 C dX6_addAdvertisement_4 rfl rfl ?_
  refine j_aload_n 0 C dX6_addAdvertisement_5 rfl rfl ?_
  refine j_iload_n 1 C dX6_addAdvertisement_6 rfl rfl ?_
  refine j_iload_n 2 C dX6_addAdvertisement_7 rfl rfl ?_
  refine j_iload_n 3 C dX6_addAdvertisement_8 rfl rfl ?_
  refine j_iload 4 C dX6_addAdvertisement_9 rfl ?_
  refine j_iload 5 C dX6_addAdvertisement_11 rfl ?_
  refine j_iload 6 C dX6_addAdvertisement_13 rfl ?_
  refine j_callVI [.int x1, .int x2, .int x3, .int x4, .int x5, .int x6] (con6_laysAd N x1 x2 x3 x4 x5 x6) C mi6_laysAd mv6_laysAd lk6_123 (by decide) (ct_84 E _) rfl rfl rfl ⟨Nat.le_of_ble_eq_true rfl, Nat.le_of_ble_eq_true rfl, Nat.le_of_ble_eq_true rfl, Nat.le_of_ble_eq_true rfl, Nat.le_of_ble_eq_true rfl⟩ dX6_addAdvertisement_15 (fun r15 σ15 => ?_)
  refine j_callVI [.int r15] (con6_ends N r15) C mi6_ends mv6_ends lk6_127 (by decide) (ct_84 E _) rfl rfl rfl ⟨Nat.le_of_ble_eq_true rfl, Nat.le_of_ble_eq_true rfl, Nat.le_of_ble_eq_true rfl, Nat.le_of_ble_eq_true rfl, Nat.le_of_ble_eq_true rfl⟩ dX6_addAdvertisement_18 (fun r18 σ18 => ?_)
  exact j_iret C hr hlocks rfl dX6_addAdvertisement_21 (Nat.le_of_ble_eq_true rfl) (Nat.le_of_ble_eq_true rfl)
set_option maxHeartbeats 4000000 in
set_option maxRecDepth 100000 in
theorem con6_addStory (N : Nat) (x1 : Int32) (x2 : Int32) (x3 : Int32) (x4 : Int32) (x5 : Int32) : ConI yX6_addStory cX6_addStory 6 .int rm6_addStory (fun E => [.ref (ea E 84), .int x1, .int x2, .int x3, .int x4, .int x5]) (f6_addStory N x1 x2 x3 x4 x5) := by
  refine conI_of (L := fun E => [(0, .ref (ea E 84)), (1, .int x1), (2, .int x2), (3, .int x3), (4, .int x4), (5, .int x5)]) (by decide) (fun _ => Nat.le_of_ble_eq_true rfl) (fun _ => rfl) ?_
  intro l E σ p e s m args below meth c C hr hlocks
  unfold f6_addStory
  refine j_aload_n 0 C dX6_addStory_0 rfl rfl ?_
  refine j_callVV [] (con6_begins N) C mi6_begins mv6_begins lk6_120 (by decide) (ct_84 E _) rfl rfl rfl ⟨Nat.le_of_ble_eq_true rfl, Nat.le_of_ble_eq_true rfl, Nat.le_of_ble_eq_true rfl, Nat.le_of_ble_eq_true rfl, Nat.le_of_ble_eq_true rfl⟩ dX6_addStory_1 (fun σ1 => ?_)
  refine j_aload_n 0 C dX6_addStory_4 rfl rfl ?_
  refine j_aload_n 0 C dX6_addStory_5 rfl rfl ?_
  refine j_iload_n 1 C dX6_addStory_6 rfl rfl ?_
  refine j_iload_n 2 C dX6_addStory_7 rfl rfl ?_
  refine j_iload_n 3 C dX6_addStory_8 rfl rfl ?_
  refine j_iload 4 C dX6_addStory_9 rfl ?_
  refine j_iload 5 C dX6_addStory_11 rfl ?_
  refine j_callVI [.int x1, .int x2, .int x3, .int x4, .int x5] (con6_laysStory N x1 x2 x3 x4 x5) C mi6_laysStory mv6_laysStory lk6_130 (by decide) (ct_84 E _) rfl rfl rfl ⟨Nat.le_of_ble_eq_true rfl, Nat.le_of_ble_eq_true rfl, Nat.le_of_ble_eq_true rfl, Nat.le_of_ble_eq_true rfl, Nat.le_of_ble_eq_true rfl⟩ dX6_addStory_13 (fun r13 σ13 => ?_)
  refine j_callVI [.int r13] (con6_ends N r13) C mi6_ends mv6_ends lk6_127 (by decide) (ct_84 E _) rfl rfl rfl ⟨Nat.le_of_ble_eq_true rfl, Nat.le_of_ble_eq_true rfl, Nat.le_of_ble_eq_true rfl, Nat.le_of_ble_eq_true rfl, Nat.le_of_ble_eq_true rfl⟩ dX6_addStory_16 (fun r16 σ16 => ?_)
  exact j_iret C hr hlocks rfl dX6_addStory_19 (Nat.le_of_ble_eq_true rfl) (Nat.le_of_ble_eq_true rfl)
set_option maxHeartbeats 4000000 in
set_option maxRecDepth 100000 in
theorem con6_setPhoto (N : Nat) (x1 : Int32) (x2 : Int32) (x3 : Int32) : ConI yX6_setPhoto cX6_setPhoto 4 .int rm6_setPhoto (fun E => [.ref (ea E 84), .int x1, .int x2, .int x3]) (f6_setPhoto N x1 x2 x3) := by
  refine conI_of (L := fun E => [(0, .ref (ea E 84)), (1, .int x1), (2, .int x2), (3, .int x3)]) (by decide) (fun _ => Nat.le_of_ble_eq_true rfl) (fun _ => rfl) ?_
  intro l E σ p e s m args below meth c C hr hlocks
  unfold f6_setPhoto
  refine j_aload_n 0 C dX6_setPhoto_0 rfl rfl ?_
  refine j_callVV [] (con6_begins N) C mi6_begins mv6_begins lk6_120 (by decide) (ct_84 E _) rfl rfl rfl ⟨Nat.le_of_ble_eq_true rfl, Nat.le_of_ble_eq_true rfl, Nat.le_of_ble_eq_true rfl, Nat.le_of_ble_eq_true rfl, Nat.le_of_ble_eq_true rfl⟩ dX6_setPhoto_1 (fun σ1 => ?_)
  refine j_aload_n 0 C dX6_setPhoto_4 rfl rfl ?_
  refine j_aload_n 0 C dX6_setPhoto_5 rfl rfl ?_
  refine j_iload_n 1 C dX6_setPhoto_6 rfl rfl ?_
  refine j_iload_n 2 C dX6_setPhoto_7 rfl rfl ?_
  refine j_iload_n 3 C dX6_setPhoto_8 rfl rfl ?_
  refine j_callVI [.int x1, .int x2, .int x3] (con6_laysPhoto N x1 x2 x3) C mi6_laysPhoto mv6_laysPhoto lk6_134 (by decide) (ct_84 E _) rfl rfl rfl ⟨Nat.le_of_ble_eq_true rfl, Nat.le_of_ble_eq_true rfl, Nat.le_of_ble_eq_true rfl, Nat.le_of_ble_eq_true rfl, Nat.le_of_ble_eq_true rfl⟩ dX6_setPhoto_9 (fun r9 σ9 => ?_)
  refine j_callVI [.int r9] (con6_ends N r9) C mi6_ends mv6_ends lk6_127 (by decide) (ct_84 E _) rfl rfl rfl ⟨Nat.le_of_ble_eq_true rfl, Nat.le_of_ble_eq_true rfl, Nat.le_of_ble_eq_true rfl, Nat.le_of_ble_eq_true rfl, Nat.le_of_ble_eq_true rfl⟩ dX6_setPhoto_12 (fun r12 σ12 => ?_)
  exact j_iret C hr hlocks rfl dX6_setPhoto_15 (Nat.le_of_ble_eq_true rfl) (Nat.le_of_ble_eq_true rfl)
set_option maxHeartbeats 4000000 in
set_option maxRecDepth 100000 in
theorem con6_setLate (N : Nat) (x1 : Int32) (x2 : Int32) : ConI yX6_setLate cX6_setLate 3 .boolean rm6_setLate (fun E => [.ref (ea E 84), .int x1, .int x2]) (f6_setLate N x1 x2) := by
  refine conI_of (L := fun E => [(0, .ref (ea E 84)), (1, .int x1), (2, .int x2)]) (by decide) (fun _ => Nat.le_of_ble_eq_true rfl) (fun _ => rfl) ?_
  intro l E σ p e s m args below meth c C hr hlocks
  have wJ16 : ∀ (y0 : Int32) (y1 : Int32) (σ : Hp), J E 3 p l e rm6_setLate s m args below meth c (QI E below args s rm6_setLate.cells rm6_setLate.slots) (f6_setLate_J16 N x1 x2 y0 y1 σ) 16 [] [.int y0, .int y1, .ref (ea E 84), .ref (ea E 84)] σ 0 0 := by
    intro y0 y1 σ
    unfold f6_setLate_J16
    refine j_callVI [.int y1, .int y0] (con6_laysLate N y1 y0) C mi6_laysLate mv6_laysLate lk6_138 (by decide) (ct_84 E _) rfl rfl rfl ⟨Nat.le_of_ble_eq_true rfl, Nat.le_of_ble_eq_true rfl, Nat.le_of_ble_eq_true rfl, Nat.le_of_ble_eq_true rfl, Nat.le_of_ble_eq_true rfl⟩ dX6_setLate_16 (fun r16 σ16 => ?_)
    refine j_callVI [.int r16] (con6_ends N r16) C mi6_ends mv6_ends lk6_127 (by decide) (ct_84 E _) rfl rfl rfl ⟨Nat.le_of_ble_eq_true rfl, Nat.le_of_ble_eq_true rfl, Nat.le_of_ble_eq_true rfl, Nat.le_of_ble_eq_true rfl, Nat.le_of_ble_eq_true rfl⟩ dX6_setLate_19 (fun r19 σ19 => ?_)
    refine j_iconst (v := 1) 1 C dX6_setLate_22 (by decide) ?_
    refine j_ine 30 C dX6_setLate_23 (by decide) ?_ ?_
    · refine j_iconst (v := 0) 0 C dX6_setLate_30 (by decide) ?_
      exact j_iret C hr hlocks rfl dX6_setLate_31 (Nat.le_of_ble_eq_true rfl) (Nat.le_of_ble_eq_true rfl)
    · refine j_iconst (v := 1) 1 C dX6_setLate_26 (by decide) ?_
      refine j_goto 31 C dX6_setLate_27 (by decide) ?_
      exact j_iret C hr hlocks rfl dX6_setLate_31 (Nat.le_of_ble_eq_true rfl) (Nat.le_of_ble_eq_true rfl)
  unfold f6_setLate
  refine j_aload_n 0 C dX6_setLate_0 rfl rfl ?_
  refine j_callVV [] (con6_begins N) C mi6_begins mv6_begins lk6_120 (by decide) (ct_84 E _) rfl rfl rfl ⟨Nat.le_of_ble_eq_true rfl, Nat.le_of_ble_eq_true rfl, Nat.le_of_ble_eq_true rfl, Nat.le_of_ble_eq_true rfl, Nat.le_of_ble_eq_true rfl⟩ dX6_setLate_1 (fun σ1 => ?_)
  refine j_aload_n 0 C dX6_setLate_4 rfl rfl ?_
  refine j_aload_n 0 C dX6_setLate_5 rfl rfl ?_
  refine j_iload_n 1 C dX6_setLate_6 rfl rfl ?_
  refine j_iload_n 2 C dX6_setLate_7 rfl rfl ?_
  refine j_zeq 15 C dX6_setLate_8 (by decide) ?_ ?_
  · refine j_iconst (v := 0) 0 C dX6_setLate_15 (by decide) ?_
    exact j_sub [] rfl (wJ16 0 x1 σ1)
  · refine j_iconst (v := 1) 1 C dX6_setLate_11 (by decide) ?_
    refine j_goto 16 C dX6_setLate_12 (by decide) ?_
    exact j_sub [] rfl (wJ16 1 x1 σ1)
set_option maxHeartbeats 4000000 in
set_option maxRecDepth 100000 in
theorem con6_change (N : Nat) (x1 : Int32) (x2 : Int32) (x3 : Int32) : ConI yX6_change cX6_change 5 .int rm6_change (fun E => [.ref (ea E 84), .int x1, .int x2, .int x3]) (f6_change N x1 x2 x3) := by
  refine conI_of (L := fun E => [(0, .ref (ea E 84)), (1, .int x1), (2, .int x2), (3, .int x3)]) (by decide) (fun _ => Nat.le_of_ble_eq_true rfl) (fun _ => rfl) ?_
  intro l E σ p e s m args below meth c C hr hlocks
  unfold f6_change
  refine j_aload_n 0 C dX6_change_0 rfl rfl ?_
  refine j_callVV [] (con6_begins N) C mi6_begins mv6_begins lk6_120 (by decide) (ct_84 E _) rfl rfl rfl ⟨Nat.le_of_ble_eq_true rfl, Nat.le_of_ble_eq_true rfl, Nat.le_of_ble_eq_true rfl, Nat.le_of_ble_eq_true rfl, Nat.le_of_ble_eq_true rfl⟩ dX6_change_1 (fun σ1 => ?_)
  refine j_aload_n 0 C dX6_change_4 rfl rfl ?_
  refine j_iload_n 1 C dX6_change_5 rfl rfl ?_
  refine j_callVI [.int x1] (con6_isStory N x1) C mi6_isStory mv6_isStory lk6_111 (by decide) (ct_84 E _) rfl rfl rfl ⟨Nat.le_of_ble_eq_true rfl, Nat.le_of_ble_eq_true rfl, Nat.le_of_ble_eq_true rfl, Nat.le_of_ble_eq_true rfl, Nat.le_of_ble_eq_true rfl⟩ dX6_change_6 (fun r6 σ6 => ?_)
  refine j_zne 18 C dX6_change_9 (by decide) ?_ ?_
  · refine j_iload_n 2 C dX6_change_18 rfl rfl ?_
    refine j_iload_n 3 C dX6_change_19 rfl rfl ?_
    refine j_callSI [.int x2, .int x3] (con6_isNumber N x2 x3) C mi6_isNumber ms6_isNumber lk6_107 rfl rfl ⟨Nat.le_of_ble_eq_true rfl, Nat.le_of_ble_eq_true rfl, Nat.le_of_ble_eq_true rfl, Nat.le_of_ble_eq_true rfl, Nat.le_of_ble_eq_true rfl⟩ dX6_change_20 (fun r20 σ20 => ?_)
    refine j_zne 32 C dX6_change_23 (by decide) ?_ ?_
    · refine j_aload_n 0 C dX6_change_32 rfl rfl ?_
      refine j_iload_n 1 C dX6_change_33 rfl rfl ?_
      refine j_iconst (v := 1) 1 C dX6_change_34 (by decide) ?_
      refine j_iload_n 2 C dX6_change_35 rfl rfl ?_
      refine j_iadd C dX6_change_36 ?_
      refine j_callVI [.int x1, .int (1 + x2)] (con6_of N x1 (1 + x2)) C mi6_of mv6_of lk6_92 (by decide) (ct_84 E _) rfl rfl rfl ⟨Nat.le_of_ble_eq_true rfl, Nat.le_of_ble_eq_true rfl, Nat.le_of_ble_eq_true rfl, Nat.le_of_ble_eq_true rfl, Nat.le_of_ble_eq_true rfl⟩ dX6_change_37 (fun r37 σ37 => ?_)
      refine j_istore [(4, .int r37), (0, .ref (ea E 84)), (1, .int x1), (2, .int x2), (3, .int x3)] C dX6_change_40 (by decide) rfl ?_
      refine j_aload_n 1 C dX6_change_42 rfl rfl ?_
      refine j_get 1 C fl6_13 (by decide) (ct_84 E _) rfl dX6_change_43 ?_
      refine j_iconst (v := 2) 2 C dX6_change_46 (by decide) ?_
      refine j_bipush (v := 9) 9 C dX6_change_47 (by decide) ?_
      refine j_iload_n 2 C dX6_change_49 rfl rfl ?_
      refine j_imul C dX6_change_50 ?_
      refine j_iadd C dX6_change_51 ?_
      refine j_iconst (v := 1) 1 C dX6_change_52 (by decide) ?_
      refine j_iadd C dX6_change_53 ?_
      refine j_iload_n 3 C dX6_change_54 rfl rfl ?_
      refine j_iadd C dX6_change_55 ?_
      refine j_iload_n 4 C dX6_change_56 rfl rfl ?_
      refine j_iast C (by decide) (ct_85 E) dX6_change_57 ?_
      refine j_aload_n 1 C dX6_change_58 rfl rfl ?_
      refine j_iload 0 C dX6_change_59 rfl ?_
      refine j_callVI [.int r37] (con6_ends N r37) C mi6_ends mv6_ends lk6_127 (by decide) (ct_84 E _) rfl rfl rfl ⟨Nat.le_of_ble_eq_true rfl, Nat.le_of_ble_eq_true rfl, Nat.le_of_ble_eq_true rfl, Nat.le_of_ble_eq_true rfl, Nat.le_of_ble_eq_true rfl⟩ dX6_change_61 (fun r61 σ61 => ?_)
      exact j_iret C hr hlocks rfl dX6_change_64 (Nat.le_of_ble_eq_true rfl) (Nat.le_of_ble_eq_true rfl)
    · refine j_aload_n 0 C dX6_change_26 rfl rfl ?_
      refine j_iconst (v := 2) 2 C dX6_change_27 (by decide) ?_
      refine j_callVI [.int 2] (con6_fails N 2) C mi6_fails mv6_fails lk6_99 (by decide) (ct_84 E _) rfl rfl rfl ⟨Nat.le_of_ble_eq_true rfl, Nat.le_of_ble_eq_true rfl, Nat.le_of_ble_eq_true rfl, Nat.le_of_ble_eq_true rfl, Nat.le_of_ble_eq_true rfl⟩ dX6_change_28 (fun r28 σ28 => ?_)
      exact j_iret C hr hlocks rfl dX6_change_31 (Nat.le_of_ble_eq_true rfl) (Nat.le_of_ble_eq_true rfl)
  · refine j_aload_n 0 C dX6_change_12 rfl rfl ?_
    refine j_iconst (v := 1) 1 C dX6_change_13 (by decide) ?_
    refine j_callVI [.int 1] (con6_fails N 1) C mi6_fails mv6_fails lk6_99 (by decide) (ct_84 E _) rfl rfl rfl ⟨Nat.le_of_ble_eq_true rfl, Nat.le_of_ble_eq_true rfl, Nat.le_of_ble_eq_true rfl, Nat.le_of_ble_eq_true rfl, Nat.le_of_ble_eq_true rfl⟩ dX6_change_14 (fun r14 σ14 => ?_)
    exact j_iret C hr hlocks rfl dX6_change_17 (Nat.le_of_ble_eq_true rfl) (Nat.le_of_ble_eq_true rfl)
set_option maxHeartbeats 4000000 in
set_option maxRecDepth 100000 in
theorem con6_many (N : Nat) (x1 : Int32) : ConI yX6_many cX6_many 4 .int rm6_many (fun E => [.ref (ea E 84), .int x1]) (f6_many N x1) := by
  refine conI_of (L := fun E => [(0, .ref (ea E 84)), (1, .int x1)]) (by decide) (fun _ => Nat.le_of_ble_eq_true rfl) (fun _ => rfl) ?_
  intro l E σ p e s m args below meth c C hr hlocks
  have wL4 : ∀ (K4 : Int32 → Hp → Option (Int32 × Hp)), (∀ (x2 : Int32) (σ : Hp), J E 4 p l e rm6_many s m args below meth c (QI E below args s rm6_many.cells rm6_many.slots) (K4 x2 σ) 47 [(2, .int x2)] [] σ 0 0) → ∀ (n4 : Nat) (x2 : Int32) (x3 : Int32) (σ : Hp), J E 4 p l e rm6_many s m args below meth c (QI E below args s rm6_many.cells rm6_many.slots) (f6_many_L4 N x1 K4 n4 x2 x3 σ) 4 [(0, .ref (ea E 84)), (1, .int x1), (2, .int x2), (3, .int x3)] [] σ 0 0 := by
    intro K4 HK4 n4
    induction n4 with
    | zero => intro x2 x3 σ; exact j_none
    | succ n4 ih4 =>
      have wJ39 : ∀ (x3 : Int32) (y0 : Int32) (y1 : Int32) (σ : Hp), J E 4 p l e rm6_many s m args below meth c (QI E below args s rm6_many.cells rm6_many.slots) (f6_many_J39 N x1 K4 (f6_many_L4 N x1 K4 n4) x3 y0 y1 σ) 39 [(0, .ref (ea E 84)), (1, .int x1), (3, .int x3)] [.int y0, .int y1] σ 0 0 := by
        intro x3 y0 y1 σ
        unfold f6_many_J39
        refine j_iadd C dX6_many_39 ?_
        refine j_istore_n [(2, .int (y1 + y0)), (0, .ref (ea E 84)), (1, .int x1), (3, .int x3)] C dX6_many_40 rfl (by decide) rfl ?_
        refine j_iinc 3 1 [(3, .int (x3 + 1)), (2, .int (y1 + y0)), (0, .ref (ea E 84)), (1, .int x1)] C dX6_many_41 rfl rfl (by decide) rfl ?_
        refine j_goto 4 C dX6_many_44 (by decide) ?_
        exact j_sub [2, 3, 1, 0] rfl (ih4 (y1 + y0) (x3 + 1) σ)
      have wJ16 : ∀ (x2 : Int32) (x3 : Int32) (y0 : Int32) (y1 : Int32) (σ : Hp), J E 4 p l e rm6_many s m args below meth c (QI E below args s rm6_many.cells rm6_many.slots) (f6_many_J16 N x1 K4 (f6_many_L4 N x1 K4 n4) x2 x3 y0 y1 σ) 16 [(0, .ref (ea E 84)), (1, .int x1), (2, .int x2), (3, .int x3)] [.int y0, .int y1] σ 0 0 := by
        intro x2 x3 y0 y1 σ
        unfold f6_many_J16
        refine j_ige 47 C dX6_many_16 (by decide) ?_ ?_
        · exact j_sub [2] rfl (HK4 x2 σ)
        · refine j_iload_n 2 C dX6_many_19 rfl rfl ?_
          refine j_iload_n 1 C dX6_many_20 rfl rfl ?_
          refine j_zeq 33 C dX6_many_21 (by decide) ?_ ?_
          · refine j_aload_n 0 C dX6_many_33 rfl rfl ?_
            refine j_iload_n 3 C dX6_many_34 rfl rfl ?_
            refine j_iconst (v := 0) 0 C dX6_many_35 (by decide) ?_
            refine j_callVI [.int x3, .int 0] (con6_ad N x3 0) C mi6_ad mv6_ad lk6_96 (by decide) (ct_84 E _) rfl rfl rfl ⟨Nat.le_of_ble_eq_true rfl, Nat.le_of_ble_eq_true rfl, Nat.le_of_ble_eq_true rfl, Nat.le_of_ble_eq_true rfl, Nat.le_of_ble_eq_true rfl⟩ dX6_many_36 (fun r36 σ36 => ?_)
            exact j_sub [0, 1, 3] rfl (wJ39 x3 r36 x2 σ36)
          · refine j_aload_n 0 C dX6_many_24 rfl rfl ?_
            refine j_iload_n 3 C dX6_many_25 rfl rfl ?_
            refine j_iconst (v := 0) 0 C dX6_many_26 (by decide) ?_
            refine j_callVI [.int x3, .int 0] (con6_of N x3 0) C mi6_of mv6_of lk6_92 (by decide) (ct_84 E _) rfl rfl rfl ⟨Nat.le_of_ble_eq_true rfl, Nat.le_of_ble_eq_true rfl, Nat.le_of_ble_eq_true rfl, Nat.le_of_ble_eq_true rfl, Nat.le_of_ble_eq_true rfl⟩ dX6_many_27 (fun r27 σ27 => ?_)
            refine j_goto 39 C dX6_many_30 (by decide) ?_
            exact j_sub [0, 1, 3] rfl (wJ39 x3 r27 x2 σ27)
      intro x2 x3 σ
      show J E 4 p l e rm6_many s m args below meth c (QI E below args s rm6_many.cells rm6_many.slots) (f6_many_B4 N x1 K4 (f6_many_L4 N x1 K4 n4) x2 x3 σ) 4 [(0, .ref (ea E 84)), (1, .int x1), (2, .int x2), (3, .int x3)] [] σ 0 0
      unfold f6_many_B4
      refine j_iload_n 3 C dX6_many_4 rfl rfl ?_
      refine j_iload_n 1 C dX6_many_5 rfl rfl ?_
      refine j_zeq 14 C dX6_many_6 (by decide) ?_ ?_
      · refine j_bipush (v := 8) 8 C dX6_many_14 (by decide) ?_
        exact j_sub [0, 1, 2, 3] rfl (wJ16 x2 x3 8 x3 σ)
      · refine j_bipush (v := 12) 12 C dX6_many_9 (by decide) ?_
        refine j_goto 16 C dX6_many_11 (by decide) ?_
        exact j_sub [0, 1, 2, 3] rfl (wJ16 x2 x3 12 x3 σ)
  unfold f6_many
  refine j_iconst (v := 0) 0 C dX6_many_0 (by decide) ?_
  refine j_istore_n [(2, .int 0), (0, .ref (ea E 84)), (1, .int x1)] C dX6_many_1 rfl (by decide) rfl ?_
  refine j_iconst (v := 0) 0 C dX6_many_2 (by decide) ?_
  refine j_istore_n [(3, .int 0), (2, .int 0), (0, .ref (ea E 84)), (1, .int x1)] C dX6_many_3 rfl (by decide) rfl ?_
  refine j_sub [2, 3, 1, 0] rfl (wL4 _ (fun x2_4 σL4 => ?_) N 0 0 σ)
  refine j_iload_n 0 C dX6_many_47 rfl rfl ?_
  exact j_iret C hr hlocks rfl dX6_many_48 (Nat.le_of_ble_eq_true rfl) (Nat.le_of_ble_eq_true rfl)
set_option maxHeartbeats 4000000 in
set_option maxRecDepth 100000 in
theorem con6_remove (N : Nat) (x1 : Int32) (x2 : Int32) : ConI yX6_remove cX6_remove 3 .int rm6_remove (fun E => [.ref (ea E 84), .int x1, .int x2]) (f6_remove N x1 x2) := by
  refine conI_of (L := fun E => [(0, .ref (ea E 84)), (1, .int x1), (2, .int x2)]) (by decide) (fun _ => Nat.le_of_ble_eq_true rfl) (fun _ => rfl) ?_
  intro l E σ p e s m args below meth c C hr hlocks
  have wJ57 : ∀ (y0 : Int32) (σ : Hp), J E 3 p l e rm6_remove s m args below meth c (QI E below args s rm6_remove.cells rm6_remove.slots) (f6_remove_J57 N x1 x2 y0 σ) 57 [(0, .ref (ea E 84)), (1, .int x1)] [.int y0, .ref (ea E 85)] σ 0 0 := by
    intro y0 σ
    unfold f6_remove_J57
    refine j_iconst (v := 0) 0 C dX6_remove_57 (by decide) ?_
    refine j_iast C (by decide) (ct_85 E) dX6_remove_58 ?_
    refine j_aload_n 0 C dX6_remove_59 rfl rfl ?_
    refine j_aload_n 0 C dX6_remove_60 rfl rfl ?_
    refine j_iload_n 1 C dX6_remove_61 rfl rfl ?_
    refine j_callVI [.int x1] (con6_many N x1) C mi6_many mv6_many lk6_144 (by decide) (ct_84 E _) rfl rfl rfl ⟨Nat.le_of_ble_eq_true rfl, Nat.le_of_ble_eq_true rfl, Nat.le_of_ble_eq_true rfl, Nat.le_of_ble_eq_true rfl, Nat.le_of_ble_eq_true rfl⟩ dX6_remove_62 (fun r62 σ62 => ?_)
    refine j_callVI [.int r62] (con6_ends N r62) C mi6_ends mv6_ends lk6_127 (by decide) (ct_84 E _) rfl rfl rfl ⟨Nat.le_of_ble_eq_true rfl, Nat.le_of_ble_eq_true rfl, Nat.le_of_ble_eq_true rfl, Nat.le_of_ble_eq_true rfl, Nat.le_of_ble_eq_true rfl⟩ dX6_remove_65 (fun r65 σ65 => ?_)
    exact j_iret C hr hlocks rfl dX6_remove_68 (Nat.le_of_ble_eq_true rfl) (Nat.le_of_ble_eq_true rfl)
  have wJ33 : ∀ (σ : Hp), J E 3 p l e rm6_remove s m args below meth c (QI E below args s rm6_remove.cells rm6_remove.slots) (f6_remove_J33 N x1 x2 σ) 33 [(0, .ref (ea E 84)), (1, .int x1), (2, .int x2)] [] σ 0 0 := by
    intro σ
    unfold f6_remove_J33
    refine j_aload_n 0 C dX6_remove_33 rfl rfl ?_
    refine j_get 1 C fl6_13 (by decide) (ct_84 E _) rfl dX6_remove_34 ?_
    refine j_iload_n 1 C dX6_remove_37 rfl rfl ?_
    refine j_zeq 50 C dX6_remove_38 (by decide) ?_ ?_
    · refine j_bipush (v := 110) 110 C dX6_remove_50 (by decide) ?_
      refine j_bipush (v := 7) 7 C dX6_remove_52 (by decide) ?_
      refine j_iload_n 2 C dX6_remove_54 rfl rfl ?_
      refine j_imul C dX6_remove_55 ?_
      refine j_iadd C dX6_remove_56 ?_
      exact j_sub [0, 1] rfl (wJ57 (110 + (7 * x2)) σ)
    · refine j_iconst (v := 2) 2 C dX6_remove_41 (by decide) ?_
      refine j_bipush (v := 9) 9 C dX6_remove_42 (by decide) ?_
      refine j_iload_n 2 C dX6_remove_44 rfl rfl ?_
      refine j_imul C dX6_remove_45 ?_
      refine j_iadd C dX6_remove_46 ?_
      refine j_goto 57 C dX6_remove_47 (by decide) ?_
      exact j_sub [0, 1] rfl (wJ57 (2 + (9 * x2)) σ)
  have wJ27 : ∀ (σ : Hp), J E 3 p l e rm6_remove s m args below meth c (QI E below args s rm6_remove.cells rm6_remove.slots) (f6_remove_J27 N x1 x2 σ) 27 [(0, .ref (ea E 84))] [] σ 0 0 := by
    intro σ
    unfold f6_remove_J27
    refine j_aload_n 0 C dX6_remove_27 rfl rfl ?_
    refine j_iconst (v := 1) 1 C dX6_remove_28 (by decide) ?_
    refine j_callVI [.int 1] (con6_fails N 1) C mi6_fails mv6_fails lk6_99 (by decide) (ct_84 E _) rfl rfl rfl ⟨Nat.le_of_ble_eq_true rfl, Nat.le_of_ble_eq_true rfl, Nat.le_of_ble_eq_true rfl, Nat.le_of_ble_eq_true rfl, Nat.le_of_ble_eq_true rfl⟩ dX6_remove_29 (fun r29 σ29 => ?_)
    exact j_iret C hr hlocks rfl dX6_remove_32 (Nat.le_of_ble_eq_true rfl) (Nat.le_of_ble_eq_true rfl)
  unfold f6_remove
  refine j_aload_n 0 C dX6_remove_0 rfl rfl ?_
  refine j_callVV [] (con6_begins N) C mi6_begins mv6_begins lk6_120 (by decide) (ct_84 E _) rfl rfl rfl ⟨Nat.le_of_ble_eq_true rfl, Nat.le_of_ble_eq_true rfl, Nat.le_of_ble_eq_true rfl, Nat.le_of_ble_eq_true rfl, Nat.le_of_ble_eq_true rfl⟩ dX6_remove_1 (fun σ1 => ?_)
  refine j_iload_n 1 C dX6_remove_4 rfl rfl ?_
  refine j_zeq 19 C dX6_remove_5 (by decide) ?_ ?_
  · refine j_aload_n 0 C dX6_remove_19 rfl rfl ?_
    refine j_iload_n 2 C dX6_remove_20 rfl rfl ?_
    refine j_callVI [.int x2] (con6_isAd N x2) C mi6_isAd mv6_isAd lk6_141 (by decide) (ct_84 E _) rfl rfl rfl ⟨Nat.le_of_ble_eq_true rfl, Nat.le_of_ble_eq_true rfl, Nat.le_of_ble_eq_true rfl, Nat.le_of_ble_eq_true rfl, Nat.le_of_ble_eq_true rfl⟩ dX6_remove_21 (fun r21 σ21 => ?_)
    refine j_zne 33 C dX6_remove_24 (by decide) ?_ ?_
    · exact j_sub [0, 1, 2] rfl (wJ33 σ21)
    · exact j_sub [0] rfl (wJ27 σ21)
  · refine j_aload_n 0 C dX6_remove_8 rfl rfl ?_
    refine j_iload_n 2 C dX6_remove_9 rfl rfl ?_
    refine j_callVI [.int x2] (con6_isStory N x2) C mi6_isStory mv6_isStory lk6_111 (by decide) (ct_84 E _) rfl rfl rfl ⟨Nat.le_of_ble_eq_true rfl, Nat.le_of_ble_eq_true rfl, Nat.le_of_ble_eq_true rfl, Nat.le_of_ble_eq_true rfl, Nat.le_of_ble_eq_true rfl⟩ dX6_remove_10 (fun r10 σ10 => ?_)
    refine j_zeq 27 C dX6_remove_13 (by decide) ?_ ?_
    · exact j_sub [0] rfl (wJ27 σ10)
    · refine j_goto 33 C dX6_remove_16 (by decide) ?_
      exact j_sub [0, 1, 2] rfl (wJ33 σ10)
set_option maxHeartbeats 4000000 in
set_option maxRecDepth 100000 in
theorem con6_at (N : Nat) (x0 : Int32) (x1 : Int32) (x2 : Int32) : ConI yX6_at cX6_at 3 .int rm6_at (fun E => [.int x0, .int x1, .int x2]) (f6_at N x0 x1 x2) := by
  refine conI_of (L := fun E => [(0, .int x0), (1, .int x1), (2, .int x2)]) (by decide) (fun _ => Nat.le_of_ble_eq_true rfl) (fun _ => rfl) ?_
  intro l E σ p e s m args below meth c C hr hlocks
  unfold f6_at
  refine j_bipush (v := 24) 24 C dX6_at_0 (by decide) ?_
  refine j_iload_n 0 C dX6_at_2 rfl rfl ?_
  refine j_imul C dX6_at_3 ?_
  refine j_iload_n 2 C dX6_at_4 rfl rfl ?_
  refine j_iadd C dX6_at_5 ?_
  refine j_iconst (v := 5) 5 C dX6_at_6 (by decide) ?_
  refine j_imul C dX6_at_7 ?_
  refine j_iload_n 1 C dX6_at_8 rfl rfl ?_
  refine j_iadd C dX6_at_9 ?_
  exact j_iret C hr hlocks rfl dX6_at_10 (Nat.le_of_ble_eq_true rfl) (Nat.le_of_ble_eq_true rfl)
set_option maxHeartbeats 4000000 in
set_option maxRecDepth 100000 in
theorem con6_isAhead (N : Nat) (x1 : Int32) (x2 : Int32) : ConI yX6_isAhead cX6_isAhead 3 .boolean rm6_isAhead (fun E => [.ref (ea E 84), .int x1, .int x2]) (f6_isAhead N x1 x2) := by
  refine conI_of (L := fun E => [(0, .ref (ea E 84)), (1, .int x1), (2, .int x2)]) (by decide) (fun _ => Nat.le_of_ble_eq_true rfl) (fun _ => rfl) ?_
  intro l E σ p e s m args below meth c C hr hlocks
  unfold f6_isAhead
  refine j_aload_n 0 C dX6_isAhead_0 rfl rfl ?_
  refine j_iload_n 1 C dX6_isAhead_1 rfl rfl ?_
  refine j_bipush (v := 8) 8 C dX6_isAhead_2 (by decide) ?_
  refine j_callVI [.int x1, .int 8] (con6_of N x1 8) C mi6_of mv6_of lk6_92 (by decide) (ct_84 E _) rfl rfl rfl ⟨Nat.le_of_ble_eq_true rfl, Nat.le_of_ble_eq_true rfl, Nat.le_of_ble_eq_true rfl, Nat.le_of_ble_eq_true rfl, Nat.le_of_ble_eq_true rfl⟩ dX6_isAhead_4 (fun r4 σ4 => ?_)
  refine j_aload_n 0 C dX6_isAhead_7 rfl rfl ?_
  refine j_iload_n 2 C dX6_isAhead_8 rfl rfl ?_
  refine j_bipush (v := 8) 8 C dX6_isAhead_9 (by decide) ?_
  refine j_callVI [.int x2, .int 8] (con6_of N x2 8) C mi6_of mv6_of lk6_92 (by decide) (ct_84 E _) rfl rfl rfl ⟨Nat.le_of_ble_eq_true rfl, Nat.le_of_ble_eq_true rfl, Nat.le_of_ble_eq_true rfl, Nat.le_of_ble_eq_true rfl, Nat.le_of_ble_eq_true rfl⟩ dX6_isAhead_11 (fun r11 σ11 => ?_)
  refine j_ieq 34 C dX6_isAhead_14 (by decide) ?_ ?_
  · refine j_aload_n 0 C dX6_isAhead_34 rfl rfl ?_
    refine j_iload_n 1 C dX6_isAhead_35 rfl rfl ?_
    refine j_iconst (v := 5) 5 C dX6_isAhead_36 (by decide) ?_
    refine j_callVI [.int x1, .int 5] (con6_of N x1 5) C mi6_of mv6_of lk6_92 (by decide) (ct_84 E _) rfl rfl rfl ⟨Nat.le_of_ble_eq_true rfl, Nat.le_of_ble_eq_true rfl, Nat.le_of_ble_eq_true rfl, Nat.le_of_ble_eq_true rfl, Nat.le_of_ble_eq_true rfl⟩ dX6_isAhead_37 (fun r37 σ37 => ?_)
    refine j_aload_n 0 C dX6_isAhead_40 rfl rfl ?_
    refine j_iload_n 2 C dX6_isAhead_41 rfl rfl ?_
    refine j_iconst (v := 5) 5 C dX6_isAhead_42 (by decide) ?_
    refine j_callVI [.int x2, .int 5] (con6_of N x2 5) C mi6_of mv6_of lk6_92 (by decide) (ct_84 E _) rfl rfl rfl ⟨Nat.le_of_ble_eq_true rfl, Nat.le_of_ble_eq_true rfl, Nat.le_of_ble_eq_true rfl, Nat.le_of_ble_eq_true rfl, Nat.le_of_ble_eq_true rfl⟩ dX6_isAhead_43 (fun r43 σ43 => ?_)
    refine j_ieq 72 C dX6_isAhead_46 (by decide) ?_ ?_
    · refine j_iload_n 1 C dX6_isAhead_72 rfl rfl ?_
      refine j_iload_n 2 C dX6_isAhead_73 rfl rfl ?_
      refine j_ige 81 C dX6_isAhead_74 (by decide) ?_ ?_
      · refine j_iconst (v := 0) 0 C dX6_isAhead_81 (by decide) ?_
        exact j_iret C hr hlocks rfl dX6_isAhead_82 (Nat.le_of_ble_eq_true rfl) (Nat.le_of_ble_eq_true rfl)
      · refine j_iconst (v := 1) 1 C dX6_isAhead_77 (by decide) ?_
        refine j_goto 82 C dX6_isAhead_78 (by decide) ?_
        exact j_iret C hr hlocks rfl dX6_isAhead_82 (Nat.le_of_ble_eq_true rfl) (Nat.le_of_ble_eq_true rfl)
    · refine j_aload_n 0 C dX6_isAhead_49 rfl rfl ?_
      refine j_iload_n 1 C dX6_isAhead_50 rfl rfl ?_
      refine j_iconst (v := 5) 5 C dX6_isAhead_51 (by decide) ?_
      refine j_callVI [.int x1, .int 5] (con6_of N x1 5) C mi6_of mv6_of lk6_92 (by decide) (ct_84 E _) rfl rfl rfl ⟨Nat.le_of_ble_eq_true rfl, Nat.le_of_ble_eq_true rfl, Nat.le_of_ble_eq_true rfl, Nat.le_of_ble_eq_true rfl, Nat.le_of_ble_eq_true rfl⟩ dX6_isAhead_52 (fun r52 σ52 => ?_)
      refine j_aload_n 0 C dX6_isAhead_55 rfl rfl ?_
      refine j_iload_n 2 C dX6_isAhead_56 rfl rfl ?_
      refine j_iconst (v := 5) 5 C dX6_isAhead_57 (by decide) ?_
      refine j_callVI [.int x2, .int 5] (con6_of N x2 5) C mi6_of mv6_of lk6_92 (by decide) (ct_84 E _) rfl rfl rfl ⟨Nat.le_of_ble_eq_true rfl, Nat.le_of_ble_eq_true rfl, Nat.le_of_ble_eq_true rfl, Nat.le_of_ble_eq_true rfl, Nat.le_of_ble_eq_true rfl⟩ dX6_isAhead_58 (fun r58 σ58 => ?_)
      refine j_ile 68 C dX6_isAhead_61 (by decide) ?_ ?_
      · refine j_iconst (v := 0) 0 C dX6_isAhead_68 (by decide) ?_
        refine j_goto 82 C dX6_isAhead_69 (by decide) ?_
        exact j_iret C hr hlocks rfl dX6_isAhead_82 (Nat.le_of_ble_eq_true rfl) (Nat.le_of_ble_eq_true rfl)
      · refine j_iconst (v := 1) 1 C dX6_isAhead_64 (by decide) ?_
        refine j_goto 82 C dX6_isAhead_65 (by decide) ?_
        exact j_iret C hr hlocks rfl dX6_isAhead_82 (Nat.le_of_ble_eq_true rfl) (Nat.le_of_ble_eq_true rfl)
  · refine j_aload_n 0 C dX6_isAhead_17 rfl rfl ?_
    refine j_iload_n 1 C dX6_isAhead_18 rfl rfl ?_
    refine j_bipush (v := 8) 8 C dX6_isAhead_19 (by decide) ?_
    refine j_callVI [.int x1, .int 8] (con6_of N x1 8) C mi6_of mv6_of lk6_92 (by decide) (ct_84 E _) rfl rfl rfl ⟨Nat.le_of_ble_eq_true rfl, Nat.le_of_ble_eq_true rfl, Nat.le_of_ble_eq_true rfl, Nat.le_of_ble_eq_true rfl, Nat.le_of_ble_eq_true rfl⟩ dX6_isAhead_21 (fun r21 σ21 => ?_)
    refine j_iconst (v := 1) 1 C dX6_isAhead_24 (by decide) ?_
    refine j_ine 32 C dX6_isAhead_25 (by decide) ?_ ?_
    · refine j_iconst (v := 0) 0 C dX6_isAhead_32 (by decide) ?_
      exact j_iret C hr hlocks rfl dX6_isAhead_33 (Nat.le_of_ble_eq_true rfl) (Nat.le_of_ble_eq_true rfl)
    · refine j_iconst (v := 1) 1 C dX6_isAhead_28 (by decide) ?_
      refine j_goto 33 C dX6_isAhead_29 (by decide) ?_
      exact j_iret C hr hlocks rfl dX6_isAhead_33 (Nat.le_of_ble_eq_true rfl) (Nat.le_of_ble_eq_true rfl)
set_option maxHeartbeats 4000000 in
set_option maxRecDepth 100000 in
theorem con6_ranks (N : Nat) : ConV yX6_ranks cX6_ranks 3 rm6_ranks (fun E => [.ref (ea E 84)]) (f6_ranks N) := by
  refine conV_of (L := fun E => [(0, .ref (ea E 84))]) (by decide) (fun _ => Nat.le_of_ble_eq_true rfl) (fun _ => rfl) ?_
  intro l E σ p e s m args below meth c C hr hlocks
  have wL7 : ∀ (K7 : Hp → Option (Unit × Hp)), (∀ (σ : Hp), J E 3 p l e rm6_ranks s m args below meth c (QV E below args s rm6_ranks.cells rm6_ranks.slots) (K7 σ) 93 [] [] σ 0 0) → ∀ (n7 : Nat) (x1 : Int32) (σ : Hp), J E 3 p l e rm6_ranks s m args below meth c (QV E below args s rm6_ranks.cells rm6_ranks.slots) (f6_ranks_L7 N K7 n7 x1 σ) 7 [(0, .ref (ea E 84)), (1, .int x1)] [] σ 0 0 := by
    intro K7 HK7 n7
    induction n7 with
    | zero => intro x1 σ; exact j_none
    | succ n7 ih7 =>
      have wJ87 : ∀ (x1 : Int32) (σ : Hp), J E 3 p l e rm6_ranks s m args below meth c (QV E below args s rm6_ranks.cells rm6_ranks.slots) (f6_ranks_J87 N K7 (f6_ranks_L7 N K7 n7) x1 σ) 87 [(0, .ref (ea E 84)), (1, .int x1)] [] σ 0 0 := by
        intro x1 σ
        unfold f6_ranks_J87
        refine j_iinc 1 1 [(1, .int (x1 + 1)), (0, .ref (ea E 84))] C dX6_ranks_87 rfl rfl (by decide) rfl ?_
        refine j_goto 7 C dX6_ranks_90 (by decide) ?_
        exact j_sub [1, 0] rfl (ih7 (x1 + 1) σ)
      have wL30 : ∀ (x1 : Int32) (K30 : Int32 → Hp → Option (Unit × Hp)), (∀ (x2 : Int32) (σ : Hp), J E 3 p l e rm6_ranks s m args below meth c (QV E below args s rm6_ranks.cells rm6_ranks.slots) (K30 x2 σ) 70 [(0, .ref (ea E 84)), (1, .int x1), (2, .int x2)] [] σ 0 0) → ∀ (n30 : Nat) (x2 : Int32) (σ : Hp), J E 3 p l e rm6_ranks s m args below meth c (QV E below args s rm6_ranks.cells rm6_ranks.slots) (f6_ranks_L30 N K7 (f6_ranks_L7 N K7 n7) x1 K30 n30 x2 σ) 30 [(0, .ref (ea E 84)), (1, .int x1), (2, .int x2)] [] σ 0 0 := by
        intro x1 K30 HK30 n30
        induction n30 with
        | zero => intro x2 σ; exact j_none
        | succ n30 ih30 =>
          intro x2 σ
          show J E 3 p l e rm6_ranks s m args below meth c (QV E below args s rm6_ranks.cells rm6_ranks.slots) (f6_ranks_B30 N K7 (f6_ranks_L7 N K7 n7) x1 K30 (f6_ranks_L30 N K7 (f6_ranks_L7 N K7 n7) x1 K30 n30) x2 σ) 30 [(0, .ref (ea E 84)), (1, .int x1), (2, .int x2)] [] σ 0 0
          unfold f6_ranks_B30
          refine j_iload_n 2 C dX6_ranks_30 rfl rfl ?_
          refine j_zle 70 C dX6_ranks_31 (by decide) ?_ ?_
          · exact j_sub [0, 1, 2] rfl (HK30 x2 σ)
          · refine j_aload_n 0 C dX6_ranks_34 rfl rfl ?_
            refine j_iload_n 1 C dX6_ranks_35 rfl rfl ?_
            refine j_aload_n 0 C dX6_ranks_36 rfl rfl ?_
            refine j_get 9 C fl6_39 (by decide) (ct_84 E _) rfl dX6_ranks_37 ?_
            refine j_iload_n 2 C dX6_ranks_40 rfl rfl ?_
            refine j_iconst (v := 1) 1 C dX6_ranks_41 (by decide) ?_
            refine j_isub C dX6_ranks_42 ?_
            refine j_iald C (by decide) (ct_91 E _) dX6_ranks_43 ?_
            refine j_callVI [.int x1, .int (σ 91 (x2 - 1).toNatClampNeg)] (con6_isAhead N x1 (σ 91 (x2 - 1).toNatClampNeg)) C mi6_isAhead mv6_isAhead lk6_148 (by decide) (ct_84 E _) rfl rfl rfl ⟨Nat.le_of_ble_eq_true rfl, Nat.le_of_ble_eq_true rfl, Nat.le_of_ble_eq_true rfl, Nat.le_of_ble_eq_true rfl, Nat.le_of_ble_eq_true rfl⟩ dX6_ranks_44 (fun r44 σ44 => ?_)
            refine j_zeq 70 C dX6_ranks_47 (by decide) ?_ ?_
            · exact j_sub [0, 1, 2] rfl (HK30 x2 σ44)
            · refine j_aload_n 0 C dX6_ranks_50 rfl rfl ?_
              refine j_get 9 C fl6_39 (by decide) (ct_84 E _) rfl dX6_ranks_51 ?_
              refine j_iload_n 2 C dX6_ranks_54 rfl rfl ?_
              refine j_aload_n 0 C dX6_ranks_55 rfl rfl ?_
              refine j_get 9 C fl6_39 (by decide) (ct_84 E _) rfl dX6_ranks_56 ?_
              refine j_iload_n 2 C dX6_ranks_59 rfl rfl ?_
              refine j_iconst (v := 1) 1 C dX6_ranks_60 (by decide) ?_
              refine j_isub C dX6_ranks_61 ?_
              refine j_iald C (by decide) (ct_91 E _) dX6_ranks_62 ?_
              refine j_iast C (by decide) (ct_91 E) dX6_ranks_63 ?_
              refine j_iinc 2 (-1) [(2, .int (x2 + (-1))), (0, .ref (ea E 84)), (1, .int x1)] C dX6_ranks_64 rfl rfl (by decide) rfl ?_
              refine j_goto 30 C dX6_ranks_67 (by decide) ?_
              exact j_sub [1, 2, 0] rfl (ih30 (x2 + (-1)) (st σ44 91 x2.toNatClampNeg (σ44 91 (x2 - 1).toNatClampNeg)))
      intro x1 σ
      show J E 3 p l e rm6_ranks s m args below meth c (QV E below args s rm6_ranks.cells rm6_ranks.slots) (f6_ranks_B7 N K7 (f6_ranks_L7 N K7 n7) x1 σ) 7 [(0, .ref (ea E 84)), (1, .int x1)] [] σ 0 0
      unfold f6_ranks_B7
      refine j_iload_n 1 C dX6_ranks_7 rfl rfl ?_
      refine j_bipush (v := 12) 12 C dX6_ranks_8 (by decide) ?_
      refine j_ige 93 C dX6_ranks_10 (by decide) ?_ ?_
      · exact j_sub [] rfl (HK7 σ)
      · refine j_aload_n 0 C dX6_ranks_13 rfl rfl ?_
        refine j_iload_n 1 C dX6_ranks_14 rfl rfl ?_
        refine j_iconst (v := 0) 0 C dX6_ranks_15 (by decide) ?_
        refine j_callVI [.int x1, .int 0] (con6_of N x1 0) C mi6_of mv6_of lk6_92 (by decide) (ct_84 E _) rfl rfl rfl ⟨Nat.le_of_ble_eq_true rfl, Nat.le_of_ble_eq_true rfl, Nat.le_of_ble_eq_true rfl, Nat.le_of_ble_eq_true rfl, Nat.le_of_ble_eq_true rfl⟩ dX6_ranks_16 (fun r16 σ16 => ?_)
        refine j_zne 25 C dX6_ranks_19 (by decide) ?_ ?_
        · refine j_aload_n 0 C dX6_ranks_25 rfl rfl ?_
          refine j_get 14 C fl6_54 (by decide) (ct_84 E _) rfl dX6_ranks_26 ?_
          refine j_istore_n [(2, .int (σ16 84 14)), (0, .ref (ea E 84)), (1, .int x1)] C dX6_ranks_29 rfl (by decide) rfl ?_
          refine j_sub [1, 2, 0] rfl (wL30 x1 _ (fun x2_30 σL30 => ?_) N (σ16 84 14) σ16)
          refine j_aload_n 0 C dX6_ranks_70 rfl rfl ?_
          refine j_get 9 C fl6_39 (by decide) (ct_84 E _) rfl dX6_ranks_71 ?_
          refine j_iload_n 2 C dX6_ranks_74 rfl rfl ?_
          refine j_iload_n 1 C dX6_ranks_75 rfl rfl ?_
          refine j_iast C (by decide) (ct_91 E) dX6_ranks_76 ?_
          refine j_aload_n 0 C dX6_ranks_77 rfl rfl ?_
          refine j_dup C dX6_ranks_78 rfl ?_
          refine j_get 14 C fl6_54 (by decide) (ct_84 E _) rfl dX6_ranks_79 ?_
          refine j_iconst (v := 1) 1 C dX6_ranks_82 (by decide) ?_
          refine j_iadd C dX6_ranks_83 ?_
          refine j_put 14 C fl6_54 rfl rfl rfl (by decide) (ct_84 E _) (Nat.le_of_ble_eq_true rfl) (ct_84 E _) dX6_ranks_84 ?_
          exact j_sub [0, 1] rfl (wJ87 x1 (st (st σL30 91 x2_30.toNatClampNeg x1) 84 14 (((st σL30 91 x2_30.toNatClampNeg x1) 84 14) + 1)))
        · refine j_goto 87 C dX6_ranks_22 (by decide) ?_
          exact j_sub [0, 1] rfl (wJ87 x1 σ16)
  unfold f6_ranks
  refine j_aload_n 0 C dX6_ranks_0 rfl rfl ?_
  refine j_iconst (v := 0) 0 C dX6_ranks_1 (by decide) ?_
  refine j_put 14 C fl6_54 rfl rfl rfl (by decide) (ct_84 E _) (Nat.le_of_ble_eq_true rfl) (ct_84 E _) dX6_ranks_2 ?_
  refine j_iconst (v := 0) 0 C dX6_ranks_5 (by decide) ?_
  refine j_istore_n [(1, .int 0), (0, .ref (ea E 84))] C dX6_ranks_6 rfl (by decide) rfl ?_
  refine j_sub [1, 0] rfl (wL7 _ (fun σL7 => ?_) N 0 (st σ 84 14 0))
  exact j_vret C hr hlocks dX6_ranks_93 (Nat.le_of_ble_eq_true rfl) (Nat.le_of_ble_eq_true rfl)
set_option maxHeartbeats 4000000 in
set_option maxRecDepth 100000 in
theorem con6_isFree (N : Nat) (x1 : Int32) (x2 : Int32) (x3 : Int32) (x4 : Int32) (x5 : Int32) : ConI yX6_isFree cX6_isFree 8 .boolean rm6_isFree (fun E => [.ref (ea E 84), .int x1, .int x2, .int x3, .int x4, .int x5]) (f6_isFree N x1 x2 x3 x4 x5) := by
  refine conI_of (L := fun E => [(0, .ref (ea E 84)), (1, .int x1), (2, .int x2), (3, .int x3), (4, .int x4), (5, .int x5)]) (by decide) (fun _ => Nat.le_of_ble_eq_true rfl) (fun _ => rfl) ?_
  intro l E σ p e s m args below meth c C hr hlocks
  have wL22 : ∀ (K22 : Hp → Option (Int32 × Hp)), (∀ (σ : Hp), J E 8 p l e rm6_isFree s m args below meth c (QI E below args s rm6_isFree.cells rm6_isFree.slots) (K22 σ) 73 [] [] σ 0 0) → ∀ (n22 : Nat) (x6 : Int32) (σ : Hp), J E 8 p l e rm6_isFree s m args below meth c (QI E below args s rm6_isFree.cells rm6_isFree.slots) (f6_isFree_L22 N x1 x2 x3 x4 x5 K22 n22 x6 σ) 22 [(0, .ref (ea E 84)), (1, .int x1), (2, .int x2), (3, .int x3), (4, .int x4), (5, .int x5), (6, .int x6)] [] σ 0 0 := by
    intro K22 HK22 n22
    induction n22 with
    | zero => intro x6 σ; exact j_none
    | succ n22 ih22 =>
      have wL34 : ∀ (x6 : Int32) (K34 : Hp → Option (Int32 × Hp)), (∀ (σ : Hp), J E 8 p l e rm6_isFree s m args below meth c (QI E below args s rm6_isFree.cells rm6_isFree.slots) (K34 σ) 67 [(0, .ref (ea E 84)), (1, .int x1), (2, .int x2), (3, .int x3), (4, .int x4), (5, .int x5), (6, .int x6)] [] σ 0 0) → ∀ (n34 : Nat) (x7 : Int32) (σ : Hp), J E 8 p l e rm6_isFree s m args below meth c (QI E below args s rm6_isFree.cells rm6_isFree.slots) (f6_isFree_L34 N x1 x2 x3 x4 x5 K22 (f6_isFree_L22 N x1 x2 x3 x4 x5 K22 n22) x6 K34 n34 x7 σ) 34 [(0, .ref (ea E 84)), (1, .int x1), (2, .int x2), (3, .int x3), (4, .int x4), (5, .int x5), (6, .int x6), (7, .int x7)] [] σ 0 0 := by
        intro x6 K34 HK34 n34
        induction n34 with
        | zero => intro x7 σ; exact j_none
        | succ n34 ih34 =>
          intro x7 σ
          show J E 8 p l e rm6_isFree s m args below meth c (QI E below args s rm6_isFree.cells rm6_isFree.slots) (f6_isFree_B34 N x1 x2 x3 x4 x5 K22 (f6_isFree_L22 N x1 x2 x3 x4 x5 K22 n22) x6 K34 (f6_isFree_L34 N x1 x2 x3 x4 x5 K22 (f6_isFree_L22 N x1 x2 x3 x4 x5 K22 n22) x6 K34 n34) x7 σ) 34 [(0, .ref (ea E 84)), (1, .int x1), (2, .int x2), (3, .int x3), (4, .int x4), (5, .int x5), (6, .int x6), (7, .int x7)] [] σ 0 0
          unfold f6_isFree_B34
          refine j_iload 7 C dX6_isFree_34 rfl ?_
          refine j_iload_n 2 C dX6_isFree_36 rfl rfl ?_
          refine j_iload 4 C dX6_isFree_37 rfl ?_
          refine j_iadd C dX6_isFree_39 ?_
          refine j_ige 67 C dX6_isFree_40 (by decide) ?_ ?_
          · exact j_sub [0, 1, 2, 3, 4, 5, 6] rfl (HK34 σ)
          · refine j_aload_n 0 C dX6_isFree_43 rfl rfl ?_
            refine j_get 7 C fl6_33 (by decide) (ct_84 E _) rfl dX6_isFree_44 ?_
            refine j_iload_n 1 C dX6_isFree_47 rfl rfl ?_
            refine j_iload 7 C dX6_isFree_48 rfl ?_
            refine j_iload 6 C dX6_isFree_50 rfl ?_
            refine j_callSI [.int x1, .int x7, .int x6] (con6_at N x1 x7 x6) C mi6_at ms6_at lk6_151 rfl rfl ⟨Nat.le_of_ble_eq_true rfl, Nat.le_of_ble_eq_true rfl, Nat.le_of_ble_eq_true rfl, Nat.le_of_ble_eq_true rfl, Nat.le_of_ble_eq_true rfl⟩ dX6_isFree_52 (fun r52 σ52 => ?_)
            refine j_iald C (by decide) (ct_89 E _) dX6_isFree_55 ?_
            refine j_zeq 61 C dX6_isFree_56 (by decide) ?_ ?_
            · refine j_iinc 7 1 [(7, .int (x7 + 1)), (0, .ref (ea E 84)), (1, .int x1), (2, .int x2), (3, .int x3), (4, .int x4), (5, .int x5), (6, .int x6)] C dX6_isFree_61 rfl rfl (by decide) rfl ?_
              refine j_goto 34 C dX6_isFree_64 (by decide) ?_
              exact j_sub [1, 2, 3, 4, 5, 6, 7, 0] rfl (ih34 (x7 + 1) σ52)
            · refine j_iconst (v := 0) 0 C dX6_isFree_59 (by decide) ?_
              exact j_iret C hr hlocks rfl dX6_isFree_60 (Nat.le_of_ble_eq_true rfl) (Nat.le_of_ble_eq_true rfl)
      intro x6 σ
      show J E 8 p l e rm6_isFree s m args below meth c (QI E below args s rm6_isFree.cells rm6_isFree.slots) (f6_isFree_B22 N x1 x2 x3 x4 x5 K22 (f6_isFree_L22 N x1 x2 x3 x4 x5 K22 n22) x6 σ) 22 [(0, .ref (ea E 84)), (1, .int x1), (2, .int x2), (3, .int x3), (4, .int x4), (5, .int x5), (6, .int x6)] [] σ 0 0
      unfold f6_isFree_B22
      refine j_iload 6 C dX6_isFree_22 rfl ?_
      refine j_iload_n 3 C dX6_isFree_24 rfl rfl ?_
      refine j_iload 5 C dX6_isFree_25 rfl ?_
      refine j_iadd C dX6_isFree_27 ?_
      refine j_ige 73 C dX6_isFree_28 (by decide) ?_ ?_
      · exact j_sub [] rfl (HK22 σ)
      · refine j_iload_n 2 C dX6_isFree_31 rfl rfl ?_
        refine j_istore [(7, .int x2), (0, .ref (ea E 84)), (1, .int x1), (2, .int x2), (3, .int x3), (4, .int x4), (5, .int x5), (6, .int x6)] C dX6_isFree_32 (by decide) rfl ?_
        refine j_sub [1, 2, 3, 4, 5, 6, 7, 0] rfl (wL34 x6 _ (fun σL34 => ?_) N x2 σ)
        refine j_iinc 6 1 [(6, .int (x6 + 1)), (0, .ref (ea E 84)), (1, .int x1), (2, .int x2), (3, .int x3), (4, .int x4), (5, .int x5)] C dX6_isFree_67 rfl rfl (by decide) rfl ?_
        refine j_goto 22 C dX6_isFree_70 (by decide) ?_
        exact j_sub [1, 2, 3, 4, 5, 6, 0] rfl (ih22 (x6 + 1) σL34)
  unfold f6_isFree
  refine j_iload_n 2 C dX6_isFree_0 rfl rfl ?_
  refine j_iload 4 C dX6_isFree_1 rfl ?_
  refine j_iadd C dX6_isFree_3 ?_
  refine j_iconst (v := 5) 5 C dX6_isFree_4 (by decide) ?_
  refine j_igt 17 C dX6_isFree_5 (by decide) ?_ ?_
  · refine j_iconst (v := 0) 0 C dX6_isFree_17 (by decide) ?_
    exact j_iret C hr hlocks rfl dX6_isFree_18 (Nat.le_of_ble_eq_true rfl) (Nat.le_of_ble_eq_true rfl)
  · refine j_iload_n 3 C dX6_isFree_8 rfl rfl ?_
    refine j_iload 5 C dX6_isFree_9 rfl ?_
    refine j_iadd C dX6_isFree_11 ?_
    refine j_bipush (v := 24) 24 C dX6_isFree_12 (by decide) ?_
    refine j_ile 19 C dX6_isFree_14 (by decide) ?_ ?_
    · refine j_iload_n 3 C dX6_isFree_19 rfl rfl ?_
      refine j_istore [(6, .int x3), (0, .ref (ea E 84)), (1, .int x1), (2, .int x2), (3, .int x3), (4, .int x4), (5, .int x5)] C dX6_isFree_20 (by decide) rfl ?_
      refine j_sub [1, 2, 3, 4, 5, 6, 0] rfl (wL22 _ (fun σL22 => ?_) N x3 σ)
      refine j_iconst (v := 1) 1 C dX6_isFree_73 (by decide) ?_
      exact j_iret C hr hlocks rfl dX6_isFree_74 (Nat.le_of_ble_eq_true rfl) (Nat.le_of_ble_eq_true rfl)
    · refine j_iconst (v := 0) 0 C dX6_isFree_17 (by decide) ?_
      exact j_iret C hr hlocks rfl dX6_isFree_18 (Nat.le_of_ble_eq_true rfl) (Nat.le_of_ble_eq_true rfl)
set_option maxHeartbeats 4000000 in
set_option maxRecDepth 100000 in
theorem con6_block (N : Nat) (x1 : Int32) (x2 : Int32) (x3 : Int32) : ConI yX6_block cX6_block 6 .int rm6_block (fun E => [.ref (ea E 84), .int x1, .int x2, .int x3]) (f6_block N x1 x2 x3) := by
  refine conI_of (L := fun E => [(0, .ref (ea E 84)), (1, .int x1), (2, .int x2), (3, .int x3)]) (by decide) (fun _ => Nat.le_of_ble_eq_true rfl) (fun _ => rfl) ?_
  intro l E σ p e s m args below meth c C hr hlocks
  have wL3 : ∀ (K3 : Hp → Option (Int32 × Hp)), (∀ (σ : Hp), J E 6 p l e rm6_block s m args below meth c (QI E below args s rm6_block.cells rm6_block.slots) (K3 σ) 57 [] [] σ 0 0) → ∀ (n3 : Nat) (x4 : Int32) (σ : Hp), J E 6 p l e rm6_block s m args below meth c (QI E below args s rm6_block.cells rm6_block.slots) (f6_block_L3 N x1 x2 x3 K3 n3 x4 σ) 3 [(0, .ref (ea E 84)), (1, .int x1), (2, .int x2), (3, .int x3), (4, .int x4)] [] σ 0 0 := by
    intro K3 HK3 n3
    induction n3 with
    | zero => intro x4 σ; exact j_none
    | succ n3 ih3 =>
      have wL15 : ∀ (x4 : Int32) (K15 : Hp → Option (Int32 × Hp)), (∀ (σ : Hp), J E 6 p l e rm6_block s m args below meth c (QI E below args s rm6_block.cells rm6_block.slots) (K15 σ) 51 [(0, .ref (ea E 84)), (1, .int x1), (2, .int x2), (3, .int x3), (4, .int x4)] [] σ 0 0) → ∀ (n15 : Nat) (x5 : Int32) (σ : Hp), J E 6 p l e rm6_block s m args below meth c (QI E below args s rm6_block.cells rm6_block.slots) (f6_block_L15 N x1 x2 x3 K3 (f6_block_L3 N x1 x2 x3 K3 n3) x4 K15 n15 x5 σ) 15 [(0, .ref (ea E 84)), (1, .int x1), (2, .int x2), (3, .int x3), (4, .int x4), (5, .int x5)] [] σ 0 0 := by
        intro x4 K15 HK15 n15
        induction n15 with
        | zero => intro x5 σ; exact j_none
        | succ n15 ih15 =>
          intro x5 σ
          show J E 6 p l e rm6_block s m args below meth c (QI E below args s rm6_block.cells rm6_block.slots) (f6_block_B15 N x1 x2 x3 K3 (f6_block_L3 N x1 x2 x3 K3 n3) x4 K15 (f6_block_L15 N x1 x2 x3 K3 (f6_block_L3 N x1 x2 x3 K3 n3) x4 K15 n15) x5 σ) 15 [(0, .ref (ea E 84)), (1, .int x1), (2, .int x2), (3, .int x3), (4, .int x4), (5, .int x5)] [] σ 0 0
          unfold f6_block_B15
          refine j_iload 5 C dX6_block_15 rfl ?_
          refine j_iload_n 2 C dX6_block_17 rfl rfl ?_
          refine j_iadd C dX6_block_18 ?_
          refine j_iconst (v := 5) 5 C dX6_block_19 (by decide) ?_
          refine j_igt 51 C dX6_block_20 (by decide) ?_ ?_
          · exact j_sub [0, 1, 2, 3, 4] rfl (HK15 σ)
          · refine j_aload_n 0 C dX6_block_23 rfl rfl ?_
            refine j_iload_n 1 C dX6_block_24 rfl rfl ?_
            refine j_iload 5 C dX6_block_25 rfl ?_
            refine j_iload 4 C dX6_block_27 rfl ?_
            refine j_iload_n 2 C dX6_block_29 rfl rfl ?_
            refine j_iload_n 3 C dX6_block_30 rfl rfl ?_
            refine j_callVI [.int x1, .int x5, .int x4, .int x2, .int x3] (con6_isFree N x1 x5 x4 x2 x3) C mi6_isFree mv6_isFree lk6_154 (by decide) (ct_84 E _) rfl rfl rfl ⟨Nat.le_of_ble_eq_true rfl, Nat.le_of_ble_eq_true rfl, Nat.le_of_ble_eq_true rfl, Nat.le_of_ble_eq_true rfl, Nat.le_of_ble_eq_true rfl⟩ dX6_block_31 (fun r31 σ31 => ?_)
            refine j_zeq 45 C dX6_block_34 (by decide) ?_ ?_
            · refine j_iinc 5 1 [(5, .int (x5 + 1)), (0, .ref (ea E 84)), (1, .int x1), (2, .int x2), (3, .int x3), (4, .int x4)] C dX6_block_45 rfl rfl (by decide) rfl ?_
              refine j_goto 15 C dX6_block_48 (by decide) ?_
              exact j_sub [1, 2, 3, 4, 5, 0] rfl (ih15 (x5 + 1) σ31)
            · refine j_iload 4 C dX6_block_37 rfl ?_
              refine j_iconst (v := 5) 5 C dX6_block_39 (by decide) ?_
              refine j_imul C dX6_block_40 ?_
              refine j_iload 5 C dX6_block_41 rfl ?_
              refine j_iadd C dX6_block_43 ?_
              exact j_iret C hr hlocks rfl dX6_block_44 (Nat.le_of_ble_eq_true rfl) (Nat.le_of_ble_eq_true rfl)
      intro x4 σ
      show J E 6 p l e rm6_block s m args below meth c (QI E below args s rm6_block.cells rm6_block.slots) (f6_block_B3 N x1 x2 x3 K3 (f6_block_L3 N x1 x2 x3 K3 n3) x4 σ) 3 [(0, .ref (ea E 84)), (1, .int x1), (2, .int x2), (3, .int x3), (4, .int x4)] [] σ 0 0
      unfold f6_block_B3
      refine j_iload 4 C dX6_block_3 rfl ?_
      refine j_iload_n 3 C dX6_block_5 rfl rfl ?_
      refine j_iadd C dX6_block_6 ?_
      refine j_bipush (v := 24) 24 C dX6_block_7 (by decide) ?_
      refine j_igt 57 C dX6_block_9 (by decide) ?_ ?_
      · exact j_sub [] rfl (HK3 σ)
      · refine j_iconst (v := 0) 0 C dX6_block_12 (by decide) ?_
        refine j_istore [(5, .int 0), (0, .ref (ea E 84)), (1, .int x1), (2, .int x2), (3, .int x3), (4, .int x4)] C dX6_block_13 (by decide) rfl ?_
        refine j_sub [1, 2, 3, 4, 5, 0] rfl (wL15 x4 _ (fun σL15 => ?_) N 0 σ)
        refine j_iinc 4 1 [(4, .int (x4 + 1)), (0, .ref (ea E 84)), (1, .int x1), (2, .int x2), (3, .int x3)] C dX6_block_51 rfl rfl (by decide) rfl ?_
        refine j_goto 3 C dX6_block_54 (by decide) ?_
        exact j_sub [1, 2, 3, 4, 0] rfl (ih3 (x4 + 1) σL15)
  unfold f6_block
  refine j_iconst (v := 0) 0 C dX6_block_0 (by decide) ?_
  refine j_istore [(4, .int 0), (0, .ref (ea E 84)), (1, .int x1), (2, .int x2), (3, .int x3)] C dX6_block_1 (by decide) rfl ?_
  refine j_sub [1, 2, 3, 4, 0] rfl (wL3 _ (fun σL3 => ?_) N 0 σ)
  refine j_iconst (v := (-1)) (-1) C dX6_block_57 (by decide) ?_
  exact j_iret C hr hlocks rfl dX6_block_58 (Nat.le_of_ble_eq_true rfl) (Nat.le_of_ble_eq_true rfl)
set_option maxHeartbeats 4000000 in
set_option maxRecDepth 100000 in
theorem con6_fills (N : Nat) (x1 : Int32) (x2 : Int32) (x3 : Int32) (x4 : Int32) (x5 : Int32) (x6 : Int32) (x7 : Int32) : ConV yX6_fills cX6_fills 10 rm6_fills (fun E => [.ref (ea E 84), .int x1, .int x2, .int x3, .int x4, .int x5, .int x6, .int x7]) (f6_fills N x1 x2 x3 x4 x5 x6 x7) := by
  refine conV_of (L := fun E => [(0, .ref (ea E 84)), (1, .int x1), (2, .int x2), (3, .int x3), (4, .int x4), (5, .int x5), (6, .int x6), (7, .int x7)]) (by decide) (fun _ => Nat.le_of_ble_eq_true rfl) (fun _ => rfl) ?_
  intro l E σ p e s m args below meth c C hr hlocks
  have wL3 : ∀ (K3 : Hp → Option (Unit × Hp)), (∀ (σ : Hp), J E 10 p l e rm6_fills s m args below meth c (QV E below args s rm6_fills.cells rm6_fills.slots) (K3 σ) 66 [] [] σ 0 0) → ∀ (n3 : Nat) (x8 : Int32) (σ : Hp), J E 10 p l e rm6_fills s m args below meth c (QV E below args s rm6_fills.cells rm6_fills.slots) (f6_fills_L3 N x1 x2 x3 x4 x5 x6 x7 K3 n3 x8 σ) 3 [(0, .ref (ea E 84)), (1, .int x1), (2, .int x2), (3, .int x3), (4, .int x4), (5, .int x5), (6, .int x6), (7, .int x7), (8, .int x8)] [] σ 0 0 := by
    intro K3 HK3 n3
    induction n3 with
    | zero => intro x8 σ; exact j_none
    | succ n3 ih3 =>
      have wL15 : ∀ (x8 : Int32) (K15 : Hp → Option (Unit × Hp)), (∀ (σ : Hp), J E 10 p l e rm6_fills s m args below meth c (QV E below args s rm6_fills.cells rm6_fills.slots) (K15 σ) 60 [(0, .ref (ea E 84)), (1, .int x1), (2, .int x2), (3, .int x3), (4, .int x4), (5, .int x5), (6, .int x6), (7, .int x7), (8, .int x8)] [] σ 0 0) → ∀ (n15 : Nat) (x9 : Int32) (σ : Hp), J E 10 p l e rm6_fills s m args below meth c (QV E below args s rm6_fills.cells rm6_fills.slots) (f6_fills_L15 N x1 x2 x3 x4 x5 x6 x7 K3 (f6_fills_L3 N x1 x2 x3 x4 x5 x6 x7 K3 n3) x8 K15 n15 x9 σ) 15 [(0, .ref (ea E 84)), (1, .int x1), (2, .int x2), (3, .int x3), (4, .int x4), (5, .int x5), (6, .int x6), (7, .int x7), (8, .int x8), (9, .int x9)] [] σ 0 0 := by
        intro x8 K15 HK15 n15
        induction n15 with
        | zero => intro x9 σ; exact j_none
        | succ n15 ih15 =>
          intro x9 σ
          show J E 10 p l e rm6_fills s m args below meth c (QV E below args s rm6_fills.cells rm6_fills.slots) (f6_fills_B15 N x1 x2 x3 x4 x5 x6 x7 K3 (f6_fills_L3 N x1 x2 x3 x4 x5 x6 x7 K3 n3) x8 K15 (f6_fills_L15 N x1 x2 x3 x4 x5 x6 x7 K3 (f6_fills_L3 N x1 x2 x3 x4 x5 x6 x7 K3 n3) x8 K15 n15) x9 σ) 15 [(0, .ref (ea E 84)), (1, .int x1), (2, .int x2), (3, .int x3), (4, .int x4), (5, .int x5), (6, .int x6), (7, .int x7), (8, .int x8), (9, .int x9)] [] σ 0 0
          unfold f6_fills_B15
          refine j_iload 9 C dX6_fills_15 rfl ?_
          refine j_iload_n 2 C dX6_fills_17 rfl rfl ?_
          refine j_iload 4 C dX6_fills_18 rfl ?_
          refine j_iadd C dX6_fills_20 ?_
          refine j_ige 60 C dX6_fills_21 (by decide) ?_ ?_
          · exact j_sub [0, 1, 2, 3, 4, 5, 6, 7, 8] rfl (HK15 σ)
          · refine j_aload_n 0 C dX6_fills_24 rfl rfl ?_
            refine j_get 7 C fl6_33 (by decide) (ct_84 E _) rfl dX6_fills_25 ?_
            refine j_iload_n 1 C dX6_fills_28 rfl rfl ?_
            refine j_iload 9 C dX6_fills_29 rfl ?_
            refine j_iload 8 C dX6_fills_31 rfl ?_
            refine j_callSI [.int x1, .int x9, .int x8] (con6_at N x1 x9 x8) C mi6_at ms6_at lk6_151 rfl rfl ⟨Nat.le_of_ble_eq_true rfl, Nat.le_of_ble_eq_true rfl, Nat.le_of_ble_eq_true rfl, Nat.le_of_ble_eq_true rfl, Nat.le_of_ble_eq_true rfl⟩ dX6_fills_33 (fun r33 σ33 => ?_)
            refine j_iload 6 C dX6_fills_36 rfl ?_
            refine j_iast C (by decide) (ct_89 E) dX6_fills_38 ?_
            refine j_aload_n 0 C dX6_fills_39 rfl rfl ?_
            refine j_get 8 C fl6_36 (by decide) (ct_84 E _) rfl dX6_fills_40 ?_
            refine j_iload_n 1 C dX6_fills_43 rfl rfl ?_
            refine j_iload 9 C dX6_fills_44 rfl ?_
            refine j_iload 8 C dX6_fills_46 rfl ?_
            refine j_callSI [.int x1, .int x9, .int x8] (con6_at N x1 x9 x8) C mi6_at ms6_at lk6_151 rfl rfl ⟨Nat.le_of_ble_eq_true rfl, Nat.le_of_ble_eq_true rfl, Nat.le_of_ble_eq_true rfl, Nat.le_of_ble_eq_true rfl, Nat.le_of_ble_eq_true rfl⟩ dX6_fills_48 (fun r48 σ48 => ?_)
            refine j_iload 7 C dX6_fills_51 rfl ?_
            refine j_iast C (by decide) (ct_90 E) dX6_fills_53 ?_
            refine j_iinc 9 1 [(9, .int (x9 + 1)), (0, .ref (ea E 84)), (1, .int x1), (2, .int x2), (3, .int x3), (4, .int x4), (5, .int x5), (6, .int x6), (7, .int x7), (8, .int x8)] C dX6_fills_54 rfl rfl (by decide) rfl ?_
            refine j_goto 15 C dX6_fills_57 (by decide) ?_
            exact j_sub [1, 2, 3, 4, 5, 6, 7, 8, 9, 0] rfl (ih15 (x9 + 1) (st σ48 90 r48.toNatClampNeg x7))
      intro x8 σ
      show J E 10 p l e rm6_fills s m args below meth c (QV E below args s rm6_fills.cells rm6_fills.slots) (f6_fills_B3 N x1 x2 x3 x4 x5 x6 x7 K3 (f6_fills_L3 N x1 x2 x3 x4 x5 x6 x7 K3 n3) x8 σ) 3 [(0, .ref (ea E 84)), (1, .int x1), (2, .int x2), (3, .int x3), (4, .int x4), (5, .int x5), (6, .int x6), (7, .int x7), (8, .int x8)] [] σ 0 0
      unfold f6_fills_B3
      refine j_iload 8 C dX6_fills_3 rfl ?_
      refine j_iload_n 3 C dX6_fills_5 rfl rfl ?_
      refine j_iload 5 C dX6_fills_6 rfl ?_
      refine j_iadd C dX6_fills_8 ?_
      refine j_ige 66 C dX6_fills_9 (by decide) ?_ ?_
      · exact j_sub [] rfl (HK3 σ)
      · refine j_iload_n 2 C dX6_fills_12 rfl rfl ?_
        refine j_istore [(9, .int x2), (0, .ref (ea E 84)), (1, .int x1), (2, .int x2), (3, .int x3), (4, .int x4), (5, .int x5), (6, .int x6), (7, .int x7), (8, .int x8)] C dX6_fills_13 (by decide) rfl ?_
        refine j_sub [1, 2, 3, 4, 5, 6, 7, 8, 9, 0] rfl (wL15 x8 _ (fun σL15 => ?_) N x2 σ)
        refine j_iinc 8 1 [(8, .int (x8 + 1)), (0, .ref (ea E 84)), (1, .int x1), (2, .int x2), (3, .int x3), (4, .int x4), (5, .int x5), (6, .int x6), (7, .int x7)] C dX6_fills_60 rfl rfl (by decide) rfl ?_
        refine j_goto 3 C dX6_fills_63 (by decide) ?_
        exact j_sub [1, 2, 3, 4, 5, 6, 7, 8, 0] rfl (ih3 (x8 + 1) σL15)
  unfold f6_fills
  refine j_iload_n 3 C dX6_fills_0 rfl rfl ?_
  refine j_istore [(8, .int x3), (0, .ref (ea E 84)), (1, .int x1), (2, .int x2), (3, .int x3), (4, .int x4), (5, .int x5), (6, .int x6), (7, .int x7)] C dX6_fills_1 (by decide) rfl ?_
  refine j_sub [1, 2, 3, 4, 5, 6, 7, 8, 0] rfl (wL3 _ (fun σL3 => ?_) N x3 σ)
  exact j_vret C hr hlocks dX6_fills_66 (Nat.le_of_ble_eq_true rfl) (Nat.le_of_ble_eq_true rfl)
set_option maxHeartbeats 4000000 in
set_option maxRecDepth 100000 in
theorem con6_head (N : Nat) (x1 : Int32) : ConI yX6_head cX6_head 2 .int rm6_head (fun E => [.ref (ea E 84), .int x1]) (f6_head N x1) := by
  refine conI_of (L := fun E => [(0, .ref (ea E 84)), (1, .int x1)]) (by decide) (fun _ => Nat.le_of_ble_eq_true rfl) (fun _ => rfl) ?_
  intro l E σ p e s m args below meth c C hr hlocks
  unfold f6_head
  refine j_aload_n 0 C dX6_head_0 rfl rfl ?_
  refine j_iload_n 1 C dX6_head_1 rfl rfl ?_
  refine j_iconst (v := 3) 3 C dX6_head_2 (by decide) ?_
  refine j_callVI [.int x1, .int 3] (con6_of N x1 3) C mi6_of mv6_of lk6_92 (by decide) (ct_84 E _) rfl rfl rfl ⟨Nat.le_of_ble_eq_true rfl, Nat.le_of_ble_eq_true rfl, Nat.le_of_ble_eq_true rfl, Nat.le_of_ble_eq_true rfl, Nat.le_of_ble_eq_true rfl⟩ dX6_head_3 (fun r3 σ3 => ?_)
  refine j_aload_n 0 C dX6_head_6 rfl rfl ?_
  refine j_iload_n 1 C dX6_head_7 rfl rfl ?_
  refine j_bipush (v := 6) 6 C dX6_head_8 (by decide) ?_
  refine j_callVI [.int x1, .int 6] (con6_of N x1 6) C mi6_of mv6_of lk6_92 (by decide) (ct_84 E _) rfl rfl rfl ⟨Nat.le_of_ble_eq_true rfl, Nat.le_of_ble_eq_true rfl, Nat.le_of_ble_eq_true rfl, Nat.le_of_ble_eq_true rfl, Nat.le_of_ble_eq_true rfl⟩ dX6_head_10 (fun r10 σ10 => ?_)
  refine j_iadd C dX6_head_13 ?_
  refine j_aload_n 0 C dX6_head_14 rfl rfl ?_
  refine j_iload_n 1 C dX6_head_15 rfl rfl ?_
  refine j_bipush (v := 7) 7 C dX6_head_16 (by decide) ?_
  refine j_callVI [.int x1, .int 7] (con6_of N x1 7) C mi6_of mv6_of lk6_92 (by decide) (ct_84 E _) rfl rfl rfl ⟨Nat.le_of_ble_eq_true rfl, Nat.le_of_ble_eq_true rfl, Nat.le_of_ble_eq_true rfl, Nat.le_of_ble_eq_true rfl, Nat.le_of_ble_eq_true rfl⟩ dX6_head_18 (fun r18 σ18 => ?_)
  refine j_iadd C dX6_head_21 ?_
  exact j_iret C hr hlocks rfl dX6_head_22 (Nat.le_of_ble_eq_true rfl) (Nat.le_of_ble_eq_true rfl)
set_option maxHeartbeats 4000000 in
set_option maxRecDepth 100000 in
theorem con6_goesOn (N : Nat) (x1 : Int32) : ConI yX6_goesOn cX6_goesOn 3 .int rm6_goesOn (fun E => [.ref (ea E 84), .int x1]) (f6_goesOn N x1) := by
  refine conI_of (L := fun E => [(0, .ref (ea E 84)), (1, .int x1)]) (by decide) (fun _ => Nat.le_of_ble_eq_true rfl) (fun _ => rfl) ?_
  intro l E σ p e s m args below meth c C hr hlocks
  have wL4 : ∀ (K4 : Hp → Option (Int32 × Hp)), (∀ (σ : Hp), J E 3 p l e rm6_goesOn s m args below meth c (QI E below args s rm6_goesOn.cells rm6_goesOn.slots) (K4 σ) 27 [] [] σ 0 0) → ∀ (n4 : Nat) (x2 : Int32) (σ : Hp), J E 3 p l e rm6_goesOn s m args below meth c (QI E below args s rm6_goesOn.cells rm6_goesOn.slots) (f6_goesOn_L4 N x1 K4 n4 x2 σ) 4 [(0, .ref (ea E 84)), (2, .int x2)] [] σ 0 0 := by
    intro K4 HK4 n4
    induction n4 with
    | zero => intro x2 σ; exact j_none
    | succ n4 ih4 =>
      intro x2 σ
      show J E 3 p l e rm6_goesOn s m args below meth c (QI E below args s rm6_goesOn.cells rm6_goesOn.slots) (f6_goesOn_B4 N x1 K4 (f6_goesOn_L4 N x1 K4 n4) x2 σ) 4 [(0, .ref (ea E 84)), (2, .int x2)] [] σ 0 0
      unfold f6_goesOn_B4
      refine j_iload_n 1 C dX6_goesOn_4 rfl rfl ?_
      refine j_iconst (v := 4) 4 C dX6_goesOn_5 (by decide) ?_
      refine j_ige 27 C dX6_goesOn_6 (by decide) ?_ ?_
      · exact j_sub [] rfl (HK4 σ)
      · refine j_aload_n 0 C dX6_goesOn_9 rfl rfl ?_
        refine j_iload_n 1 C dX6_goesOn_10 rfl rfl ?_
        refine j_iconst (v := 1) 1 C dX6_goesOn_11 (by decide) ?_
        refine j_iconst (v := 3) 3 C dX6_goesOn_12 (by decide) ?_
        refine j_callVI [.int x2, .int 1, .int 3] (con6_block N x2 1 3) C mi6_block mv6_block lk6_157 (by decide) (ct_84 E _) rfl rfl rfl ⟨Nat.le_of_ble_eq_true rfl, Nat.le_of_ble_eq_true rfl, Nat.le_of_ble_eq_true rfl, Nat.le_of_ble_eq_true rfl, Nat.le_of_ble_eq_true rfl⟩ dX6_goesOn_13 (fun r13 σ13 => ?_)
        refine j_zlt 21 C dX6_goesOn_16 (by decide) ?_ ?_
        · refine j_iinc 1 1 [(2, .int (x2 + 1)), (0, .ref (ea E 84))] C dX6_goesOn_21 rfl rfl (by decide) rfl ?_
          refine j_goto 4 C dX6_goesOn_24 (by decide) ?_
          exact j_sub [1, 0] rfl (ih4 (x2 + 1) σ13)
        · refine j_iload_n 1 C dX6_goesOn_19 rfl rfl ?_
          exact j_iret C hr hlocks rfl dX6_goesOn_20 (Nat.le_of_ble_eq_true rfl) (Nat.le_of_ble_eq_true rfl)
  unfold f6_goesOn
  refine j_iload_n 1 C dX6_goesOn_0 rfl rfl ?_
  refine j_iconst (v := 1) 1 C dX6_goesOn_1 (by decide) ?_
  refine j_iadd C dX6_goesOn_2 ?_
  refine j_istore_n [(2, .int (x1 + 1)), (0, .ref (ea E 84)), (1, .int x1)] C dX6_goesOn_3 rfl (by decide) rfl ?_
  refine j_sub [1, 0] rfl (wL4 _ (fun σL4 => ?_) N (x1 + 1) σ)
  refine j_iconst (v := (-1)) (-1) C dX6_goesOn_27 (by decide) ?_
  exact j_iret C hr hlocks rfl dX6_goesOn_28 (Nat.le_of_ble_eq_true rfl) (Nat.le_of_ble_eq_true rfl)
set_option maxHeartbeats 4000000 in
set_option maxRecDepth 100000 in
theorem con6_notes (N : Nat) (x1 : Int32) (x2 : Int32) (x3 : Int32) (x4 : Int32) (x5 : Int32) (x6 : Int32) (x7 : Int32) (x8 : Int32) (x9 : Int32) : ConV yX6_notes cX6_notes 11 rm6_notes (fun E => [.ref (ea E 84), .int x1, .int x2, .int x3, .int x4, .int x5, .int x6, .int x7, .int x8, .int x9]) (f6_notes N x1 x2 x3 x4 x5 x6 x7 x8 x9) := by
  refine conV_of (L := fun E => [(0, .ref (ea E 84)), (1, .int x1), (2, .int x2), (3, .int x3), (4, .int x4), (5, .int x5), (6, .int x6), (7, .int x7), (8, .int x8), (9, .int x9)]) (by decide) (fun _ => Nat.le_of_ble_eq_true rfl) (fun _ => rfl) ?_
  intro l E σ p e s m args below meth c C hr hlocks
  have wJ108 : ∀ (y0 : Int32) (y1 : Int32) (σ : Hp), J E 11 p l e rm6_notes s m args below meth c (QV E below args s rm6_notes.cells rm6_notes.slots) (f6_notes_J108 N x1 x2 x3 x4 x5 x6 x7 x8 x9 y0 y1 σ) 108 [(0, .ref (ea E 84)), (1, .int x1)] [.int y0, .int y1, .ref (ea E 94)] σ 0 0 := by
    intro y0 y1 σ
    unfold f6_notes_J108
    refine j_iast C (by decide) (ct_94 E) dX6_notes_108 ?_
    refine j_aload_n 0 C dX6_notes_109 rfl rfl ?_
    refine j_get 11 C fl6_45 (by decide) (ct_84 E _) rfl dX6_notes_110 ?_
    refine j_iload_n 1 C dX6_notes_113 rfl rfl ?_
    refine j_dup2 C dX6_notes_114 rfl rfl ?_
    refine j_iald C (by decide) (ct_93 E _) dX6_notes_115 ?_
    refine j_iconst (v := 1) 1 C dX6_notes_116 (by decide) ?_
    refine j_iadd C dX6_notes_117 ?_
    refine j_iast C (by decide) (ct_93 E) dX6_notes_118 ?_
    exact j_vret C hr hlocks dX6_notes_119 (Nat.le_of_ble_eq_true rfl) (Nat.le_of_ble_eq_true rfl)
  unfold f6_notes
  refine j_bipush (v := 8) 8 C dX6_notes_0 (by decide) ?_
  refine j_iconst (v := 4) 4 C dX6_notes_2 (by decide) ?_
  refine j_iload_n 1 C dX6_notes_3 rfl rfl ?_
  refine j_imul C dX6_notes_4 ?_
  refine j_aload_n 0 C dX6_notes_5 rfl rfl ?_
  refine j_get 11 C fl6_45 (by decide) (ct_84 E _) rfl dX6_notes_6 ?_
  refine j_iload_n 1 C dX6_notes_9 rfl rfl ?_
  refine j_iald C (by decide) (ct_93 E _) dX6_notes_10 ?_
  refine j_iadd C dX6_notes_11 ?_
  refine j_imul C dX6_notes_12 ?_
  refine j_istore [(10, .int (8 * ((4 * x1) + (σ 93 x1.toNatClampNeg)))), (0, .ref (ea E 84)), (1, .int x1), (2, .int x2), (3, .int x3), (4, .int x4), (5, .int x5), (6, .int x6), (7, .int x7), (8, .int x8), (9, .int x9)] C dX6_notes_13 (by decide) rfl ?_
  refine j_aload_n 1 C dX6_notes_15 rfl rfl ?_
  refine j_get 12 C fl6_48 (by decide) (ct_84 E _) rfl dX6_notes_16 ?_
  refine j_iload 0 C dX6_notes_19 rfl ?_
  refine j_iload_n 3 C dX6_notes_21 rfl rfl ?_
  refine j_iast C (by decide) (ct_94 E) dX6_notes_22 ?_
  refine j_aload_n 1 C dX6_notes_23 rfl rfl ?_
  refine j_get 12 C fl6_48 (by decide) (ct_84 E _) rfl dX6_notes_24 ?_
  refine j_iload 0 C dX6_notes_27 rfl ?_
  refine j_iconst (v := 1) 1 C dX6_notes_29 (by decide) ?_
  refine j_iadd C dX6_notes_30 ?_
  refine j_iload_n 4 C dX6_notes_31 rfl rfl ?_
  refine j_iast C (by decide) (ct_94 E) dX6_notes_32 ?_
  refine j_aload_n 1 C dX6_notes_33 rfl rfl ?_
  refine j_get 12 C fl6_48 (by decide) (ct_84 E _) rfl dX6_notes_34 ?_
  refine j_iload 0 C dX6_notes_37 rfl ?_
  refine j_iconst (v := 2) 2 C dX6_notes_39 (by decide) ?_
  refine j_iadd C dX6_notes_40 ?_
  refine j_iload 5 C dX6_notes_41 rfl ?_
  refine j_iast C (by decide) (ct_94 E) dX6_notes_43 ?_
  refine j_aload_n 1 C dX6_notes_44 rfl rfl ?_
  refine j_get 12 C fl6_48 (by decide) (ct_84 E _) rfl dX6_notes_45 ?_
  refine j_iload 0 C dX6_notes_48 rfl ?_
  refine j_iconst (v := 3) 3 C dX6_notes_50 (by decide) ?_
  refine j_iadd C dX6_notes_51 ?_
  refine j_iload 6 C dX6_notes_52 rfl ?_
  refine j_iast C (by decide) (ct_94 E) dX6_notes_54 ?_
  refine j_aload_n 1 C dX6_notes_55 rfl rfl ?_
  refine j_get 12 C fl6_48 (by decide) (ct_84 E _) rfl dX6_notes_56 ?_
  refine j_iload 0 C dX6_notes_59 rfl ?_
  refine j_iconst (v := 4) 4 C dX6_notes_61 (by decide) ?_
  refine j_iadd C dX6_notes_62 ?_
  refine j_iload 7 C dX6_notes_63 rfl ?_
  refine j_iast C (by decide) (ct_94 E) dX6_notes_65 ?_
  refine j_aload_n 1 C dX6_notes_66 rfl rfl ?_
  refine j_get 12 C fl6_48 (by decide) (ct_84 E _) rfl dX6_notes_67 ?_
  refine j_iload 0 C dX6_notes_70 rfl ?_
  refine j_iconst (v := 5) 5 C dX6_notes_72 (by decide) ?_
  refine j_iadd C dX6_notes_73 ?_
  refine j_iload 8 C dX6_notes_74 rfl ?_
  refine j_iast C (by decide) (ct_94 E) dX6_notes_76 ?_
  refine j_aload_n 1 C dX6_notes_77 rfl rfl ?_
  refine j_get 12 C fl6_48 (by decide) (ct_84 E _) rfl dX6_notes_78 ?_
  refine j_iload 0 C dX6_notes_81 rfl ?_
  refine j_bipush (v := 6) 6 C dX6_notes_83 (by decide) ?_
  refine j_iadd C dX6_notes_85 ?_
  refine j_iload 9 C dX6_notes_86 rfl ?_
  refine j_iast C (by decide) (ct_94 E) dX6_notes_88 ?_
  refine j_aload_n 1 C dX6_notes_89 rfl rfl ?_
  refine j_get 12 C fl6_48 (by decide) (ct_84 E _) rfl dX6_notes_90 ?_
  refine j_iload 0 C dX6_notes_93 rfl ?_
  refine j_bipush (v := 7) 7 C dX6_notes_95 (by decide) ?_
  refine j_iadd C dX6_notes_97 ?_
  refine j_iload 10 C dX6_notes_98 rfl ?_
  refine j_zeq 107 C dX6_notes_100 (by decide) ?_ ?_
  · refine j_iconst (v := 0) 0 C dX6_notes_107 (by decide) ?_
    exact j_sub [1, 2] rfl (wJ108 0 ((8 * ((4 * x1) + (σ 93 x1.toNatClampNeg))) + 7) (st (st (st (st (st (st (st σ 94 (8 * ((4 * x1) + (σ 93 x1.toNatClampNeg))).toNatClampNeg x2) 94 ((8 * ((4 * x1) + (σ 93 x1.toNatClampNeg))) + 1).toNatClampNeg x3) 94 ((8 * ((4 * x1) + (σ 93 x1.toNatClampNeg))) + 2).toNatClampNeg x4) 94 ((8 * ((4 * x1) + (σ 93 x1.toNatClampNeg))) + 3).toNatClampNeg x5) 94 ((8 * ((4 * x1) + (σ 93 x1.toNatClampNeg))) + 4).toNatClampNeg x6) 94 ((8 * ((4 * x1) + (σ 93 x1.toNatClampNeg))) + 5).toNatClampNeg x7) 94 ((8 * ((4 * x1) + (σ 93 x1.toNatClampNeg))) + 6).toNatClampNeg x8))
  · refine j_iconst (v := 1) 1 C dX6_notes_103 (by decide) ?_
    refine j_goto 108 C dX6_notes_104 (by decide) ?_
    exact j_sub [1, 2] rfl (wJ108 1 ((8 * ((4 * x1) + (σ 93 x1.toNatClampNeg))) + 7) (st (st (st (st (st (st (st σ 94 (8 * ((4 * x1) + (σ 93 x1.toNatClampNeg))).toNatClampNeg x2) 94 ((8 * ((4 * x1) + (σ 93 x1.toNatClampNeg))) + 1).toNatClampNeg x3) 94 ((8 * ((4 * x1) + (σ 93 x1.toNatClampNeg))) + 2).toNatClampNeg x4) 94 ((8 * ((4 * x1) + (σ 93 x1.toNatClampNeg))) + 3).toNatClampNeg x5) 94 ((8 * ((4 * x1) + (σ 93 x1.toNatClampNeg))) + 4).toNatClampNeg x6) 94 ((8 * ((4 * x1) + (σ 93 x1.toNatClampNeg))) + 5).toNatClampNeg x7) 94 ((8 * ((4 * x1) + (σ 93 x1.toNatClampNeg))) + 6).toNatClampNeg x8))
set_option maxHeartbeats 4000000 in
set_option maxRecDepth 100000 in
theorem con6_linesIn (N : Nat) (x1 : Int32) (x2 : Int32) (x3 : Int32) (x4 : Int32) (x5 : Int32) (x6 : Int32) (x7 : Int32) : ConV yX6_linesIn cX6_linesIn 10 rm6_linesIn (fun E => [.ref (ea E 84), .int x1, .int x2, .int x3, .int x4, .int x5, .int x6, .int x7]) (f6_linesIn N x1 x2 x3 x4 x5 x6 x7) := by
  refine conV_of (L := fun E => [(0, .ref (ea E 84)), (1, .int x1), (2, .int x2), (3, .int x3), (4, .int x4), (5, .int x5), (6, .int x6), (7, .int x7)]) (by decide) (fun _ => Nat.le_of_ble_eq_true rfl) (fun _ => rfl) ?_
  intro l E σ p e s m args below meth c C hr hlocks
  have wL18 : ∀ (K18 : Hp → Option (Unit × Hp)), (∀ (σ : Hp), J E 10 p l e rm6_linesIn s m args below meth c (QV E below args s rm6_linesIn.cells rm6_linesIn.slots) (K18 σ) 70 [] [] σ 0 0) → ∀ (n18 : Nat) (x8 : Int32) (σ : Hp), J E 10 p l e rm6_linesIn s m args below meth c (QV E below args s rm6_linesIn.cells rm6_linesIn.slots) (f6_linesIn_L18 N x1 x2 x3 x4 x5 x6 x7 K18 n18 x8 σ) 18 [(0, .ref (ea E 84)), (1, .int x1), (2, .int x2), (3, .int x3), (4, .int x4), (5, .int x5), (7, .int x7), (8, .int x8)] [] σ 0 0 := by
    intro K18 HK18 n18
    induction n18 with
    | zero => intro x8 σ; exact j_none
    | succ n18 ih18 =>
      have wJ45 : ∀ (x8 : Int32) (y0 : Int32) (y1 : Int32) (σ : Hp), J E 10 p l e rm6_linesIn s m args below meth c (QV E below args s rm6_linesIn.cells rm6_linesIn.slots) (f6_linesIn_J45 N x1 x2 x3 x4 x5 x6 x7 K18 (f6_linesIn_L18 N x1 x2 x3 x4 x5 x6 x7 K18 n18) x8 y0 y1 σ) 45 [(0, .ref (ea E 84)), (1, .int x1), (2, .int x2), (3, .int x3), (4, .int x4), (5, .int x5), (7, .int x7), (8, .int x8)] [.int y0, .int y1] σ 0 0 := by
        intro x8 y0 y1 σ
        unfold f6_linesIn_J45
        refine j_iadd C dX6_linesIn_45 ?_
        refine j_istore [(9, .int (y1 + y0)), (0, .ref (ea E 84)), (1, .int x1), (2, .int x2), (3, .int x3), (4, .int x4), (5, .int x5), (7, .int x7), (8, .int x8)] C dX6_linesIn_46 (by decide) rfl ?_
        refine j_aload_n 1 C dX6_linesIn_48 rfl rfl ?_
        refine j_iload_n 3 C dX6_linesIn_49 rfl rfl ?_
        refine j_iload_n 4 C dX6_linesIn_50 rfl rfl ?_
        refine j_iload 8 C dX6_linesIn_51 rfl ?_
        refine j_iadd C dX6_linesIn_53 ?_
        refine j_iload 5 C dX6_linesIn_54 rfl ?_
        refine j_iconst (v := 1) 1 C dX6_linesIn_56 (by decide) ?_
        refine j_iload 0 C dX6_linesIn_57 rfl ?_
        refine j_iconst (v := 5) 5 C dX6_linesIn_59 (by decide) ?_
        refine j_iload_n 2 C dX6_linesIn_60 rfl rfl ?_
        refine j_callVV [.int x2, .int (x3 + x8), .int x4, .int 1, .int (y1 + y0), .int 5, .int x1] (con6_fills N x2 (x3 + x8) x4 1 (y1 + y0) 5 x1) C mi6_fills mv6_fills lk6_160 (by decide) (ct_84 E _) rfl rfl rfl ⟨Nat.le_of_ble_eq_true rfl, Nat.le_of_ble_eq_true rfl, Nat.le_of_ble_eq_true rfl, Nat.le_of_ble_eq_true rfl, Nat.le_of_ble_eq_true rfl⟩ dX6_linesIn_61 (fun σ61 => ?_)
        refine j_iinc 8 1 [(8, .int (x8 + 1)), (9, .int (y1 + y0)), (0, .ref (ea E 84)), (1, .int x1), (2, .int x2), (3, .int x3), (4, .int x4), (5, .int x5), (7, .int x7)] C dX6_linesIn_64 rfl rfl (by decide) rfl ?_
        refine j_goto 18 C dX6_linesIn_67 (by decide) ?_
        exact j_sub [2, 3, 4, 5, 6, 7, 8, 0] rfl (ih18 (x8 + 1) σ61)
      intro x8 σ
      show J E 10 p l e rm6_linesIn s m args below meth c (QV E below args s rm6_linesIn.cells rm6_linesIn.slots) (f6_linesIn_B18 N x1 x2 x3 x4 x5 x6 x7 K18 (f6_linesIn_L18 N x1 x2 x3 x4 x5 x6 x7 K18 n18) x8 σ) 18 [(0, .ref (ea E 84)), (1, .int x1), (2, .int x2), (3, .int x3), (4, .int x4), (5, .int x5), (7, .int x7), (8, .int x8)] [] σ 0 0
      unfold f6_linesIn_B18
      refine j_iload 7 C dX6_linesIn_18 rfl ?_
      refine j_iload 5 C dX6_linesIn_20 rfl ?_
      refine j_ige 70 C dX6_linesIn_22 (by decide) ?_ ?_
      · exact j_sub [] rfl (HK18 σ)
      · refine j_iload 6 C dX6_linesIn_25 rfl ?_
        refine j_iload 5 C dX6_linesIn_27 rfl ?_
        refine j_idiv C dX6_linesIn_29 ?_
        refine j_iload 7 C dX6_linesIn_30 rfl ?_
        refine j_iload 6 C dX6_linesIn_32 rfl ?_
        refine j_iload 5 C dX6_linesIn_34 rfl ?_
        refine j_irem C dX6_linesIn_36 ?_
        refine j_ige 44 C dX6_linesIn_37 (by decide) ?_ ?_
        · refine j_iconst (v := 0) 0 C dX6_linesIn_44 (by decide) ?_
          exact j_sub [0, 1, 2, 3, 4, 5, 6, 7] rfl (wJ45 x8 0 (x7 / x5) σ)
        · refine j_iconst (v := 1) 1 C dX6_linesIn_40 (by decide) ?_
          refine j_goto 45 C dX6_linesIn_41 (by decide) ?_
          exact j_sub [0, 1, 2, 3, 4, 5, 6, 7] rfl (wJ45 x8 1 (x7 / x5) σ)
  unfold f6_linesIn
  refine j_aload_n 0 C dX6_linesIn_0 rfl rfl ?_
  refine j_iload_n 2 C dX6_linesIn_1 rfl rfl ?_
  refine j_iload_n 3 C dX6_linesIn_2 rfl rfl ?_
  refine j_iload 4 C dX6_linesIn_3 rfl ?_
  refine j_iload 5 C dX6_linesIn_5 rfl ?_
  refine j_iload 6 C dX6_linesIn_7 rfl ?_
  refine j_bipush (v := 8) 8 C dX6_linesIn_9 (by decide) ?_
  refine j_iload_n 1 C dX6_linesIn_11 rfl rfl ?_
  refine j_callVV [.int x2, .int x3, .int x4, .int x5, .int x6, .int 8, .int x1] (con6_fills N x2 x3 x4 x5 x6 8 x1) C mi6_fills mv6_fills lk6_160 (by decide) (ct_84 E _) rfl rfl rfl ⟨Nat.le_of_ble_eq_true rfl, Nat.le_of_ble_eq_true rfl, Nat.le_of_ble_eq_true rfl, Nat.le_of_ble_eq_true rfl, Nat.le_of_ble_eq_true rfl⟩ dX6_linesIn_12 (fun σ12 => ?_)
  refine j_iconst (v := 0) 0 C dX6_linesIn_15 (by decide) ?_
  refine j_istore [(8, .int 0), (0, .ref (ea E 84)), (1, .int x1), (2, .int x2), (3, .int x3), (4, .int x4), (5, .int x5), (6, .int x6), (7, .int x7)] C dX6_linesIn_16 (by decide) rfl ?_
  refine j_sub [1, 2, 3, 4, 5, 6, 8, 0] rfl (wL18 _ (fun σL18 => ?_) N 0 σ12)
  exact j_vret C hr hlocks dX6_linesIn_70 (Nat.le_of_ble_eq_true rfl) (Nat.le_of_ble_eq_true rfl)
set_option maxHeartbeats 4000000 in
set_option maxRecDepth 100000 in
theorem con6_continues (N : Nat) (x1 : Int32) (x2 : Int32) (x3 : Int32) : ConV yX6_continues cX6_continues 13 rm6_continues (fun E => [.ref (ea E 84), .int x1, .int x2, .int x3]) (f6_continues N x1 x2 x3) := by
  refine conV_of (L := fun E => [(0, .ref (ea E 84)), (1, .int x1), (2, .int x2), (3, .int x3)]) (by decide) (fun _ => Nat.le_of_ble_eq_true rfl) (fun _ => rfl) ?_
  intro l E σ p e s m args below meth c C hr hlocks
  have wL6 : ∀ (K6 : Hp → Option (Unit × Hp)), (∀ (σ : Hp), J E 13 p l e rm6_continues s m args below meth c (QV E below args s rm6_continues.cells rm6_continues.slots) (K6 σ) 228 [] [] σ 0 0) → ∀ (n6 : Nat) (x4 : Int32) (x5 : Int32) (σ : Hp), J E 13 p l e rm6_continues s m args below meth c (QV E below args s rm6_continues.cells rm6_continues.slots) (f6_continues_L6 N x1 x2 x3 K6 n6 x4 x5 σ) 6 [(0, .ref (ea E 84)), (1, .int x1), (4, .int x4), (5, .int x5)] [] σ 0 0 := by
    intro K6 HK6 n6
    induction n6 with
    | zero => intro x4 x5 σ; exact j_none
    | succ n6 ih6 =>
      have wJ211 : ∀ (x5 : Int32) (x11 : Int32) (x12 : Int32) (y0 : Int32) (y1 : Int32) (y2 : Int32) (y3 : Int32) (y4 : Int32) (y5 : Int32) (y6 : Int32) (y7 : Int32) (y8 : Int32) (σ : Hp), J E 13 p l e rm6_continues s m args below meth c (QV E below args s rm6_continues.cells rm6_continues.slots) (f6_continues_J211 N x1 x2 x3 K6 (f6_continues_L6 N x1 x2 x3 K6 n6) x5 x11 x12 y0 y1 y2 y3 y4 y5 y6 y7 y8 σ) 211 [(0, .ref (ea E 84)), (1, .int x1), (5, .int x5), (11, .int x11), (12, .int x12)] [.int y0, .int y1, .int y2, .int y3, .int y4, .int y5, .int y6, .int y7, .int y8, .ref (ea E 84)] σ 0 0 := by
        intro x5 x11 x12 y0 y1 y2 y3 y4 y5 y6 y7 y8 σ
        unfold f6_continues_J211
        refine j_callVV [.int y8, .int y7, .int y6, .int y5, .int y4, .int y3, .int y2, .int y1, .int y0] (con6_notes N y8 y7 y6 y5 y4 y3 y2 y1 y0) C mi6_notes mv6_notes lk6_178 (by decide) (ct_84 E _) rfl rfl rfl ⟨Nat.le_of_ble_eq_true rfl, Nat.le_of_ble_eq_true rfl, Nat.le_of_ble_eq_true rfl, Nat.le_of_ble_eq_true rfl, Nat.le_of_ble_eq_true rfl⟩ dX6_continues_211 (fun σ211 => ?_)
        refine j_iload 2 C dX6_continues_214 rfl ?_
        refine j_iload 4 C dX6_continues_216 rfl ?_
        refine j_iadd C dX6_continues_218 ?_
        refine j_istore [(5, .int (x5 + x12)), (0, .ref (ea E 84)), (1, .int x1), (11, .int x11), (12, .int x12)] C dX6_continues_219 (by decide) rfl ?_
        refine j_iload 3 C dX6_continues_221 rfl ?_
        refine j_istore [(4, .int x11), (5, .int (x5 + x12)), (0, .ref (ea E 84)), (1, .int x1), (11, .int x11), (12, .int x12)] C dX6_continues_223 (by decide) rfl ?_
        refine j_goto 6 C dX6_continues_225 (by decide) ?_
        exact j_sub [2, 3, 0, 1] rfl (ih6 x11 (x5 + x12) σ211)
      have wJ196 : ∀ (x5 : Int32) (x11 : Int32) (x12 : Int32) (y0 : Int32) (y1 : Int32) (y2 : Int32) (y3 : Int32) (y4 : Int32) (y5 : Int32) (y6 : Int32) (σ : Hp), J E 13 p l e rm6_continues s m args below meth c (QV E below args s rm6_continues.cells rm6_continues.slots) (f6_continues_J196 N x1 x2 x3 K6 (f6_continues_L6 N x1 x2 x3 K6 n6) x5 x11 x12 y0 y1 y2 y3 y4 y5 y6 σ) 196 [(0, .ref (ea E 84)), (1, .int x1), (5, .int x5), (11, .int x11), (12, .int x12)] [.int y0, .int y1, .int y2, .int y3, .int y4, .int y5, .int y6, .ref (ea E 84)] σ 0 0 := by
        intro x5 x11 x12 y0 y1 y2 y3 y4 y5 y6 σ
        unfold f6_continues_J196
        refine j_iadd C dX6_continues_196 ?_
        refine j_iload 4 C dX6_continues_197 rfl ?_
        refine j_iload 2 C dX6_continues_199 rfl ?_
        refine j_iload 3 C dX6_continues_201 rfl ?_
        refine j_zlt 210 C dX6_continues_203 (by decide) ?_ ?_
        · refine j_iconst (v := 0) 0 C dX6_continues_210 (by decide) ?_
          exact j_sub [0, 1, 2, 3, 4] rfl (wJ211 x5 x11 x12 0 x5 x12 (y1 + y0) y2 y3 y4 y5 y6 σ)
        · refine j_iconst (v := 1) 1 C dX6_continues_206 (by decide) ?_
          refine j_goto 211 C dX6_continues_207 (by decide) ?_
          exact j_sub [0, 1, 2, 3, 4] rfl (wJ211 x5 x11 x12 1 x5 x12 (y1 + y0) y2 y3 y4 y5 y6 σ)
      have wJ173 : ∀ (x4 : Int32) (x5 : Int32) (x7 : Int32) (x8 : Int32) (x11 : Int32) (x12 : Int32) (σ : Hp), J E 13 p l e rm6_continues s m args below meth c (QV E below args s rm6_continues.cells rm6_continues.slots) (f6_continues_J173 N x1 x2 x3 K6 (f6_continues_L6 N x1 x2 x3 K6 n6) x4 x5 x7 x8 x11 x12 σ) 173 [(0, .ref (ea E 84)), (1, .int x1), (4, .int x4), (5, .int x5), (7, .int x7), (8, .int x8), (11, .int x11), (12, .int x12)] [] σ 0 0 := by
        intro x4 x5 x7 x8 x11 x12 σ
        unfold f6_continues_J173
        refine j_aload_n 0 C dX6_continues_173 rfl rfl ?_
        refine j_iload_n 1 C dX6_continues_174 rfl rfl ?_
        refine j_iload 2 C dX6_continues_175 rfl ?_
        refine j_iload 5 C dX6_continues_177 rfl ?_
        refine j_iload 4 C dX6_continues_179 rfl ?_
        refine j_iconst (v := 1) 1 C dX6_continues_181 (by decide) ?_
        refine j_iconst (v := 1) 1 C dX6_continues_182 (by decide) ?_
        refine j_iload 7 C dX6_continues_183 rfl ?_
        refine j_iadd C dX6_continues_185 ?_
        refine j_iload 6 C dX6_continues_186 rfl ?_
        refine j_zlt 195 C dX6_continues_188 (by decide) ?_ ?_
        · refine j_iconst (v := 0) 0 C dX6_continues_195 (by decide) ?_
          exact j_sub [0, 1, 3, 6, 7] rfl (wJ196 x5 x11 x12 0 (1 + x12) 1 x7 x8 x4 x1 σ)
        · refine j_iconst (v := 1) 1 C dX6_continues_191 (by decide) ?_
          refine j_goto 196 C dX6_continues_192 (by decide) ?_
          exact j_sub [0, 1, 3, 6, 7] rfl (wJ196 x5 x11 x12 1 (1 + x12) 1 x7 x8 x4 x1 σ)
      have wJ113 : ∀ (x4 : Int32) (x5 : Int32) (x7 : Int32) (x8 : Int32) (x11 : Int32) (y0 : Int32) (σ : Hp), J E 13 p l e rm6_continues s m args below meth c (QV E below args s rm6_continues.cells rm6_continues.slots) (f6_continues_J113 N x1 x2 x3 K6 (f6_continues_L6 N x1 x2 x3 K6 n6) x4 x5 x7 x8 x11 y0 σ) 113 [(0, .ref (ea E 84)), (1, .int x1), (4, .int x4), (5, .int x5), (7, .int x7), (8, .int x8), (11, .int x11)] [.int y0] σ 0 0 := by
        intro x4 x5 x7 x8 x11 y0 σ
        unfold f6_continues_J113
        refine j_istore [(12, .int y0), (0, .ref (ea E 84)), (1, .int x1), (4, .int x4), (5, .int x5), (7, .int x7), (8, .int x8), (11, .int x11)] C dX6_continues_113 (by decide) rfl ?_
        refine j_aload_n 1 C dX6_continues_115 rfl rfl ?_
        refine j_iload 3 C dX6_continues_116 rfl ?_
        refine j_iload 6 C dX6_continues_118 rfl ?_
        refine j_iload 5 C dX6_continues_120 rfl ?_
        refine j_iconst (v := 1) 1 C dX6_continues_122 (by decide) ?_
        refine j_iconst (v := 1) 1 C dX6_continues_123 (by decide) ?_
        refine j_bipush (v := 7) 7 C dX6_continues_124 (by decide) ?_
        refine j_iload_n 2 C dX6_continues_126 rfl rfl ?_
        refine j_callVV [.int x4, .int x8, .int x7, .int 1, .int 1, .int 7, .int x1] (con6_fills N x4 x8 x7 1 1 7 x1) C mi6_fills mv6_fills lk6_160 (by decide) (ct_84 E _) rfl rfl rfl ⟨Nat.le_of_ble_eq_true rfl, Nat.le_of_ble_eq_true rfl, Nat.le_of_ble_eq_true rfl, Nat.le_of_ble_eq_true rfl, Nat.le_of_ble_eq_true rfl⟩ dX6_continues_127 (fun σ127 => ?_)
        refine j_aload_n 1 C dX6_continues_130 rfl rfl ?_
        refine j_iload_n 2 C dX6_continues_131 rfl rfl ?_
        refine j_iload 3 C dX6_continues_132 rfl ?_
        refine j_iload 6 C dX6_continues_134 rfl ?_
        refine j_iload 5 C dX6_continues_136 rfl ?_
        refine j_iconst (v := 1) 1 C dX6_continues_138 (by decide) ?_
        refine j_iadd C dX6_continues_139 ?_
        refine j_iconst (v := 1) 1 C dX6_continues_140 (by decide) ?_
        refine j_iload 0 C dX6_continues_141 rfl ?_
        refine j_iload 0 C dX6_continues_143 rfl ?_
        refine j_callVV [.int x1, .int x4, .int x8, .int (x7 + 1), .int 1, .int y0, .int y0] (con6_linesIn N x1 x4 x8 (x7 + 1) 1 y0 y0) C mi6_linesIn mv6_linesIn lk6_175 (by decide) (ct_84 E _) rfl rfl rfl ⟨Nat.le_of_ble_eq_true rfl, Nat.le_of_ble_eq_true rfl, Nat.le_of_ble_eq_true rfl, Nat.le_of_ble_eq_true rfl, Nat.le_of_ble_eq_true rfl⟩ dX6_continues_145 (fun σ145 => ?_)
        refine j_iload 7 C dX6_continues_148 rfl ?_
        refine j_zlt 173 C dX6_continues_150 (by decide) ?_ ?_
        · exact j_sub [1, 2, 3, 4, 5, 6, 7, 0] rfl (wJ173 x4 x5 x7 x8 x11 y0 σ145)
        · refine j_aload_n 1 C dX6_continues_153 rfl rfl ?_
          refine j_iload 3 C dX6_continues_154 rfl ?_
          refine j_iload 6 C dX6_continues_156 rfl ?_
          refine j_iload 5 C dX6_continues_158 rfl ?_
          refine j_iconst (v := 1) 1 C dX6_continues_160 (by decide) ?_
          refine j_iadd C dX6_continues_161 ?_
          refine j_iload 0 C dX6_continues_162 rfl ?_
          refine j_iadd C dX6_continues_164 ?_
          refine j_iconst (v := 1) 1 C dX6_continues_165 (by decide) ?_
          refine j_iconst (v := 1) 1 C dX6_continues_166 (by decide) ?_
          refine j_bipush (v := 6) 6 C dX6_continues_167 (by decide) ?_
          refine j_iload_n 2 C dX6_continues_169 rfl rfl ?_
          refine j_callVV [.int x4, .int x8, .int ((x7 + 1) + y0), .int 1, .int 1, .int 6, .int x1] (con6_fills N x4 x8 ((x7 + 1) + y0) 1 1 6 x1) C mi6_fills mv6_fills lk6_160 (by decide) (ct_84 E _) rfl rfl rfl ⟨Nat.le_of_ble_eq_true rfl, Nat.le_of_ble_eq_true rfl, Nat.le_of_ble_eq_true rfl, Nat.le_of_ble_eq_true rfl, Nat.le_of_ble_eq_true rfl⟩ dX6_continues_170 (fun σ170 => ?_)
          exact j_sub [1, 2, 3, 4, 5, 6, 7, 0] rfl (wJ173 x4 x5 x7 x8 x11 y0 σ170)
      have wJ90 : ∀ (x4 : Int32) (x5 : Int32) (x7 : Int32) (x8 : Int32) (x9 : Int32) (x10 : Int32) (y0 : Int32) (σ : Hp), J E 13 p l e rm6_continues s m args below meth c (QV E below args s rm6_continues.cells rm6_continues.slots) (f6_continues_J90 N x1 x2 x3 K6 (f6_continues_L6 N x1 x2 x3 K6 n6) x4 x5 x7 x8 x9 x10 y0 σ) 90 [(0, .ref (ea E 84)), (1, .int x1), (4, .int x4), (5, .int x5), (7, .int x7), (8, .int x8), (9, .int x9), (10, .int x10)] [.int y0] σ 0 0 := by
        intro x4 x5 x7 x8 x9 x10 y0 σ
        unfold f6_continues_J90
        refine j_istore [(11, .int y0), (0, .ref (ea E 84)), (1, .int x1), (4, .int x4), (5, .int x5), (7, .int x7), (8, .int x8), (9, .int x9), (10, .int x10)] C dX6_continues_90 (by decide) rfl ?_
        refine j_iload 0 C dX6_continues_92 rfl ?_
        refine j_zlt 104 C dX6_continues_94 (by decide) ?_ ?_
        · refine j_iload 8 C dX6_continues_104 rfl ?_
          refine j_iload 7 C dX6_continues_106 rfl ?_
          refine j_iconst (v := 1) 1 C dX6_continues_108 (by decide) ?_
          refine j_isub C dX6_continues_109 ?_
          refine j_min C lm6_170 ⟨Nat.le_of_ble_eq_true rfl, Nat.le_of_ble_eq_true rfl, Nat.le_of_ble_eq_true rfl, Nat.le_of_ble_eq_true rfl⟩ dX6_continues_110 ?_
          exact j_sub [1, 2, 3, 4, 5, 6, 0] rfl (wJ113 x4 x5 x7 x8 y0 (if (x9 - 1) < x10 then (x9 - 1) else x10) σ)
        · refine j_iload 7 C dX6_continues_97 rfl ?_
          refine j_iconst (v := 2) 2 C dX6_continues_99 (by decide) ?_
          refine j_isub C dX6_continues_100 ?_
          refine j_goto 113 C dX6_continues_101 (by decide) ?_
          exact j_sub [1, 2, 3, 4, 5, 6, 0] rfl (wJ113 x4 x5 x7 x8 y0 (x9 - 2) σ)
      have wL36 : ∀ (x4 : Int32) (x5 : Int32) (x7 : Int32) (x8 : Int32) (K36 : Int32 → Hp → Option (Unit × Hp)), (∀ (x9 : Int32) (σ : Hp), J E 13 p l e rm6_continues s m args below meth c (QV E below args s rm6_continues.cells rm6_continues.slots) (K36 x9 σ) 60 [(0, .ref (ea E 84)), (1, .int x1), (4, .int x4), (5, .int x5), (7, .int x7), (8, .int x8), (9, .int x9)] [] σ 0 0) → ∀ (n36 : Nat) (x9 : Int32) (σ : Hp), J E 13 p l e rm6_continues s m args below meth c (QV E below args s rm6_continues.cells rm6_continues.slots) (f6_continues_L36 N x1 x2 x3 K6 (f6_continues_L6 N x1 x2 x3 K6 n6) x4 x5 x7 x8 K36 n36 x9 σ) 36 [(0, .ref (ea E 84)), (1, .int x1), (4, .int x4), (5, .int x5), (7, .int x7), (8, .int x8), (9, .int x9)] [] σ 0 0 := by
        intro x4 x5 x7 x8 K36 HK36 n36
        induction n36 with
        | zero => intro x9 σ; exact j_none
        | succ n36 ih36 =>
          intro x9 σ
          show J E 13 p l e rm6_continues s m args below meth c (QV E below args s rm6_continues.cells rm6_continues.slots) (f6_continues_B36 N x1 x2 x3 K6 (f6_continues_L6 N x1 x2 x3 K6 n6) x4 x5 x7 x8 K36 (f6_continues_L36 N x1 x2 x3 K6 (f6_continues_L6 N x1 x2 x3 K6 n6) x4 x5 x7 x8 K36 n36) x9 σ) 36 [(0, .ref (ea E 84)), (1, .int x1), (4, .int x4), (5, .int x5), (7, .int x7), (8, .int x8), (9, .int x9)] [] σ 0 0
          unfold f6_continues_B36
          refine j_aload_n 0 C dX6_continues_36 rfl rfl ?_
          refine j_iload 2 C dX6_continues_37 rfl ?_
          refine j_iload 5 C dX6_continues_39 rfl ?_
          refine j_iload 4 C dX6_continues_41 rfl ?_
          refine j_iconst (v := 1) 1 C dX6_continues_43 (by decide) ?_
          refine j_iload 6 C dX6_continues_44 rfl ?_
          refine j_iconst (v := 1) 1 C dX6_continues_46 (by decide) ?_
          refine j_iadd C dX6_continues_47 ?_
          refine j_callVI [.int x4, .int x8, .int x7, .int 1, .int (x9 + 1)] (con6_isFree N x4 x8 x7 1 (x9 + 1)) C mi6_isFree mv6_isFree lk6_154 (by decide) (ct_84 E _) rfl rfl rfl ⟨Nat.le_of_ble_eq_true rfl, Nat.le_of_ble_eq_true rfl, Nat.le_of_ble_eq_true rfl, Nat.le_of_ble_eq_true rfl, Nat.le_of_ble_eq_true rfl⟩ dX6_continues_48 (fun r48 σ48 => ?_)
          refine j_zeq 60 C dX6_continues_51 (by decide) ?_ ?_
          · exact j_sub [0, 1, 2, 3, 4, 5, 6] rfl (HK36 x9 σ48)
          · refine j_iinc 6 1 [(9, .int (x9 + 1)), (0, .ref (ea E 84)), (1, .int x1), (4, .int x4), (5, .int x5), (7, .int x7), (8, .int x8)] C dX6_continues_54 rfl rfl (by decide) rfl ?_
            refine j_goto 36 C dX6_continues_57 (by decide) ?_
            exact j_sub [1, 2, 3, 4, 5, 6, 0] rfl (ih36 (x9 + 1) σ48)
      intro x4 x5 σ
      show J E 13 p l e rm6_continues s m args below meth c (QV E below args s rm6_continues.cells rm6_continues.slots) (f6_continues_B6 N x1 x2 x3 K6 (f6_continues_L6 N x1 x2 x3 K6 n6) x4 x5 σ) 6 [(0, .ref (ea E 84)), (1, .int x1), (4, .int x4), (5, .int x5)] [] σ 0 0
      unfold f6_continues_B6
      refine j_iload 2 C dX6_continues_6 rfl ?_
      refine j_zlt 228 C dX6_continues_8 (by decide) ?_ ?_
      · exact j_sub [] rfl (HK6 σ)
      · refine j_aload_n 0 C dX6_continues_11 rfl rfl ?_
        refine j_iload 2 C dX6_continues_12 rfl ?_
        refine j_iconst (v := 1) 1 C dX6_continues_14 (by decide) ?_
        refine j_iconst (v := 3) 3 C dX6_continues_15 (by decide) ?_
        refine j_callVI [.int x4, .int 1, .int 3] (con6_block N x4 1 3) C mi6_block mv6_block lk6_157 (by decide) (ct_84 E _) rfl rfl rfl ⟨Nat.le_of_ble_eq_true rfl, Nat.le_of_ble_eq_true rfl, Nat.le_of_ble_eq_true rfl, Nat.le_of_ble_eq_true rfl, Nat.le_of_ble_eq_true rfl⟩ dX6_continues_16 (fun r16 σ16 => ?_)
        refine j_istore [(6, .int r16), (0, .ref (ea E 84)), (1, .int x1), (4, .int x4), (5, .int x5)] C dX6_continues_19 (by decide) rfl ?_
        refine j_iload 0 C dX6_continues_21 rfl ?_
        refine j_iconst (v := 5) 5 C dX6_continues_23 (by decide) ?_
        refine j_idiv C dX6_continues_24 ?_
        refine j_istore [(7, .int (r16 / (5 : Int32))), (6, .int r16), (0, .ref (ea E 84)), (1, .int x1), (4, .int x4), (5, .int x5)] C dX6_continues_25 (by decide) rfl ?_
        refine j_iload 1 C dX6_continues_27 rfl ?_
        refine j_iconst (v := 5) 5 C dX6_continues_29 (by decide) ?_
        refine j_irem C dX6_continues_30 ?_
        refine j_istore [(8, .int (r16 - r16 / (5 : Int32) * (5 : Int32))), (7, .int (r16 / (5 : Int32))), (6, .int r16), (0, .ref (ea E 84)), (1, .int x1), (4, .int x4), (5, .int x5)] C dX6_continues_31 (by decide) rfl ?_
        refine j_iconst (v := 3) 3 C dX6_continues_33 (by decide) ?_
        refine j_istore [(9, .int 3), (8, .int (r16 - r16 / (5 : Int32) * (5 : Int32))), (7, .int (r16 / (5 : Int32))), (6, .int r16), (0, .ref (ea E 84)), (1, .int x1), (4, .int x4), (5, .int x5)] C dX6_continues_34 (by decide) rfl ?_
        refine j_sub [4, 5, 6, 7, 2, 1, 0] rfl (wL36 x4 x5 (r16 / (5 : Int32)) (r16 - r16 / (5 : Int32) * (5 : Int32)) _ (fun x9_36 σL36 => ?_) N 3 σ16)
        refine j_aload_n 0 C dX6_continues_60 rfl rfl ?_
        refine j_iload_n 1 C dX6_continues_61 rfl rfl ?_
        refine j_iconst (v := 4) 4 C dX6_continues_62 (by decide) ?_
        refine j_callVI [.int x1, .int 4] (con6_of N x1 4) C mi6_of mv6_of lk6_92 (by decide) (ct_84 E _) rfl rfl rfl ⟨Nat.le_of_ble_eq_true rfl, Nat.le_of_ble_eq_true rfl, Nat.le_of_ble_eq_true rfl, Nat.le_of_ble_eq_true rfl, Nat.le_of_ble_eq_true rfl⟩ dX6_continues_63 (fun r63 σ63 => ?_)
        refine j_iload 3 C dX6_continues_66 rfl ?_
        refine j_isub C dX6_continues_68 ?_
        refine j_istore [(10, .int (r63 - x5)), (0, .ref (ea E 84)), (1, .int x1), (4, .int x4), (5, .int x5), (7, .int (r16 / (5 : Int32))), (8, .int (r16 - r16 / (5 : Int32) * (5 : Int32))), (9, .int x9_36)] C dX6_continues_69 (by decide) rfl ?_
        refine j_iload 0 C dX6_continues_71 rfl ?_
        refine j_iload 7 C dX6_continues_73 rfl ?_
        refine j_iconst (v := 1) 1 C dX6_continues_75 (by decide) ?_
        refine j_isub C dX6_continues_76 ?_
        refine j_ile 89 C dX6_continues_77 (by decide) ?_ ?_
        · refine j_iconst (v := (-1)) (-1) C dX6_continues_89 (by decide) ?_
          exact j_sub [1, 2, 3, 4, 5, 6, 7, 0] rfl (wJ90 x4 x5 (r16 / (5 : Int32)) (r16 - r16 / (5 : Int32) * (5 : Int32)) x9_36 (r63 - x5) (-1) σ63)
        · refine j_aload_n 1 C dX6_continues_80 rfl rfl ?_
          refine j_iload 3 C dX6_continues_81 rfl ?_
          refine j_callVI [.int x4] (con6_goesOn N x4) C mi6_goesOn mv6_goesOn lk6_167 (by decide) (ct_84 E _) rfl rfl rfl ⟨Nat.le_of_ble_eq_true rfl, Nat.le_of_ble_eq_true rfl, Nat.le_of_ble_eq_true rfl, Nat.le_of_ble_eq_true rfl, Nat.le_of_ble_eq_true rfl⟩ dX6_continues_83 (fun r83 σ83 => ?_)
          refine j_goto 90 C dX6_continues_86 (by decide) ?_
          exact j_sub [1, 2, 3, 4, 5, 6, 7, 0] rfl (wJ90 x4 x5 (r16 / (5 : Int32)) (r16 - r16 / (5 : Int32) * (5 : Int32)) x9_36 (r63 - x5) r83 σ83)
  unfold f6_continues
  refine j_iload_n 2 C dX6_continues_0 rfl rfl ?_
  refine j_istore [(4, .int x2), (0, .ref (ea E 84)), (1, .int x1), (2, .int x2), (3, .int x3)] C dX6_continues_1 (by decide) rfl ?_
  refine j_iload_n 4 C dX6_continues_3 rfl rfl ?_
  refine j_istore [(5, .int x3), (4, .int x2), (0, .ref (ea E 84)), (1, .int x1), (2, .int x2), (3, .int x3)] C dX6_continues_4 (by decide) rfl ?_
  refine j_sub [2, 3, 1, 0] rfl (wL6 _ (fun σL6 => ?_) N x2 x3 σ)
  exact j_vret C hr hlocks dX6_continues_228 (Nat.le_of_ble_eq_true rfl) (Nat.le_of_ble_eq_true rfl)
set_option maxHeartbeats 4000000 in
set_option maxRecDepth 100000 in
theorem con6_starts (N : Nat) (x1 : Int32) (x2 : Int32) (x3 : Int32) : ConV yX6_starts cX6_starts 15 rm6_starts (fun E => [.ref (ea E 84), .int x1, .int x2, .int x3]) (f6_starts N x1 x2 x3) := by
  refine conV_of (L := fun E => [(0, .ref (ea E 84)), (1, .int x1), (2, .int x2), (3, .int x3)]) (by decide) (fun _ => Nat.le_of_ble_eq_true rfl) (fun _ => rfl) ?_
  intro l E σ p e s m args below meth c C hr hlocks
  have wJ297 : ∀ (x10 : Int32) (x11 : Int32) (x12 : Int32) (y0 : Int32) (y1 : Int32) (y2 : Int32) (y3 : Int32) (y4 : Int32) (y5 : Int32) (y6 : Int32) (σ : Hp), J E 15 p l e rm6_starts s m args below meth c (QV E below args s rm6_starts.cells rm6_starts.slots) (f6_starts_J297 N x1 x2 x3 x10 x11 x12 y0 y1 y2 y3 y4 y5 y6 σ) 297 [(0, .ref (ea E 84)), (1, .int x1), (10, .int x10), (11, .int x11), (12, .int x12)] [.int y0, .int y1, .int y2, .int y3, .int y4, .int y5, .int y6, .ref (ea E 84)] σ 0 0 := by
    intro x10 x11 x12 y0 y1 y2 y3 y4 y5 y6 σ
    unfold f6_starts_J297
    refine j_iadd C dX6_starts_297 ?_
    refine j_iload 4 C dX6_starts_298 rfl ?_
    refine j_iconst (v := 0) 0 C dX6_starts_300 (by decide) ?_
    refine j_iload 3 C dX6_starts_301 rfl ?_
    refine j_callVV [.int y6, .int y5, .int y4, .int y3, .int y2, .int (y1 + y0), .int x12, .int 0, .int x11] (con6_notes N y6 y5 y4 y3 y2 (y1 + y0) x12 0 x11) C mi6_notes mv6_notes lk6_178 (by decide) (ct_84 E _) rfl rfl rfl ⟨Nat.le_of_ble_eq_true rfl, Nat.le_of_ble_eq_true rfl, Nat.le_of_ble_eq_true rfl, Nat.le_of_ble_eq_true rfl, Nat.le_of_ble_eq_true rfl⟩ dX6_starts_303 (fun σ303 => ?_)
    refine j_iload 3 C dX6_starts_306 rfl ?_
    refine j_zeq 320 C dX6_starts_308 (by decide) ?_ ?_
    · exact j_vret C hr hlocks dX6_starts_320 (Nat.le_of_ble_eq_true rfl) (Nat.le_of_ble_eq_true rfl)
    · refine j_aload_n 0 C dX6_starts_311 rfl rfl ?_
      refine j_iload_n 1 C dX6_starts_312 rfl rfl ?_
      refine j_iload 2 C dX6_starts_313 rfl ?_
      refine j_iload 4 C dX6_starts_315 rfl ?_
      refine j_callVV [.int x1, .int x10, .int x12] (con6_continues N x1 x10 x12) C mi6_continues mv6_continues lk6_182 (by decide) (ct_84 E _) rfl rfl rfl ⟨Nat.le_of_ble_eq_true rfl, Nat.le_of_ble_eq_true rfl, Nat.le_of_ble_eq_true rfl, Nat.le_of_ble_eq_true rfl, Nat.le_of_ble_eq_true rfl⟩ dX6_starts_317 (fun σ317 => ?_)
      exact j_vret C hr hlocks dX6_starts_320 (Nat.le_of_ble_eq_true rfl) (Nat.le_of_ble_eq_true rfl)
  have wJ273 : ∀ (x4 : Int32) (x5 : Int32) (x6 : Int32) (x7 : Int32) (x10 : Int32) (x11 : Int32) (x12 : Int32) (x13 : Int32) (σ : Hp), J E 15 p l e rm6_starts s m args below meth c (QV E below args s rm6_starts.cells rm6_starts.slots) (f6_starts_J273 N x1 x2 x3 x4 x5 x6 x7 x10 x11 x12 x13 σ) 273 [(0, .ref (ea E 84)), (1, .int x1), (2, .int x2), (4, .int x4), (5, .int x5), (6, .int x6), (7, .int x7), (10, .int x10), (11, .int x11), (12, .int x12), (13, .int x13)] [] σ 0 0 := by
    intro x4 x5 x6 x7 x10 x11 x12 x13 σ
    unfold f6_starts_J273
    refine j_aload_n 0 C dX6_starts_273 rfl rfl ?_
    refine j_iload_n 1 C dX6_starts_274 rfl rfl ?_
    refine j_iload_n 2 C dX6_starts_275 rfl rfl ?_
    refine j_iload 4 C dX6_starts_276 rfl ?_
    refine j_iload 3 C dX6_starts_278 rfl ?_
    refine j_iload 5 C dX6_starts_280 rfl ?_
    refine j_iload 6 C dX6_starts_282 rfl ?_
    refine j_iload 10 C dX6_starts_284 rfl ?_
    refine j_iadd C dX6_starts_286 ?_
    refine j_iload 8 C dX6_starts_287 rfl ?_
    refine j_zeq 296 C dX6_starts_289 (by decide) ?_ ?_
    · refine j_iconst (v := 0) 0 C dX6_starts_296 (by decide) ?_
      exact j_sub [0, 1, 7, 8, 9] rfl (wJ297 x10 x11 x12 0 (x7 + x13) x6 x4 x5 x2 x1 σ)
    · refine j_iconst (v := 1) 1 C dX6_starts_292 (by decide) ?_
      refine j_goto 297 C dX6_starts_293 (by decide) ?_
      exact j_sub [0, 1, 7, 8, 9] rfl (wJ297 x10 x11 x12 1 (x7 + x13) x6 x4 x5 x2 x1 σ)
  have wJ136 : ∀ (x4 : Int32) (x5 : Int32) (x6 : Int32) (x7 : Int32) (x10 : Int32) (x11 : Int32) (y0 : Int32) (σ : Hp), J E 15 p l e rm6_starts s m args below meth c (QV E below args s rm6_starts.cells rm6_starts.slots) (f6_starts_J136 N x1 x2 x3 x4 x5 x6 x7 x10 x11 y0 σ) 136 [(0, .ref (ea E 84)), (1, .int x1), (2, .int x2), (4, .int x4), (5, .int x5), (6, .int x6), (7, .int x7), (10, .int x10), (11, .int x11)] [.int y0] σ 0 0 := by
    intro x4 x5 x6 x7 x10 x11 y0 σ
    unfold f6_starts_J136
    refine j_istore [(12, .int y0), (0, .ref (ea E 84)), (1, .int x1), (2, .int x2), (4, .int x4), (5, .int x5), (6, .int x6), (7, .int x7), (10, .int x10), (11, .int x11)] C dX6_starts_136 (by decide) rfl ?_
    refine j_iload 0 C dX6_starts_138 rfl ?_
    refine j_iload 6 C dX6_starts_140 rfl ?_
    refine j_iadd C dX6_starts_142 ?_
    refine j_iconst (v := 1) 1 C dX6_starts_143 (by decide) ?_
    refine j_isub C dX6_starts_144 ?_
    refine j_iload 6 C dX6_starts_145 rfl ?_
    refine j_idiv C dX6_starts_147 ?_
    refine j_istore [(13, .int (((y0 + x6) - 1) / x6)), (12, .int y0), (0, .ref (ea E 84)), (1, .int x1), (2, .int x2), (4, .int x4), (5, .int x5), (6, .int x6), (7, .int x7), (10, .int x10), (11, .int x11)] C dX6_starts_148 (by decide) rfl ?_
    refine j_iload 5 C dX6_starts_150 rfl ?_
    refine j_aload_n 2 C dX6_starts_152 rfl rfl ?_
    refine j_iload_n 3 C dX6_starts_153 rfl rfl ?_
    refine j_iconst (v := 3) 3 C dX6_starts_154 (by decide) ?_
    refine j_callVI [.int x1, .int 3] (con6_of N x1 3) C mi6_of mv6_of lk6_92 (by decide) (ct_84 E _) rfl rfl rfl ⟨Nat.le_of_ble_eq_true rfl, Nat.le_of_ble_eq_true rfl, Nat.le_of_ble_eq_true rfl, Nat.le_of_ble_eq_true rfl, Nat.le_of_ble_eq_true rfl⟩ dX6_starts_155 (fun r155 σ155 => ?_)
    refine j_iadd C dX6_starts_158 ?_
    refine j_istore [(14, .int (x4 + r155)), (13, .int (((y0 + x6) - 1) / x6)), (12, .int y0), (0, .ref (ea E 84)), (1, .int x1), (2, .int x2), (4, .int x4), (5, .int x5), (6, .int x6), (7, .int x7), (10, .int x10), (11, .int x11)] C dX6_starts_159 (by decide) rfl ?_
    refine j_aload_n 3 C dX6_starts_161 rfl rfl ?_
    refine j_iload_n 5 C dX6_starts_162 rfl rfl ?_
    refine j_iload 7 C dX6_starts_163 rfl ?_
    refine j_iload 6 C dX6_starts_165 rfl ?_
    refine j_iload 8 C dX6_starts_167 rfl ?_
    refine j_aload_n 3 C dX6_starts_169 rfl rfl ?_
    refine j_iload_n 4 C dX6_starts_170 rfl rfl ?_
    refine j_iconst (v := 3) 3 C dX6_starts_171 (by decide) ?_
    refine j_callVI [.int x1, .int 3] (con6_of N x1 3) C mi6_of mv6_of lk6_92 (by decide) (ct_84 E _) rfl rfl rfl ⟨Nat.le_of_ble_eq_true rfl, Nat.le_of_ble_eq_true rfl, Nat.le_of_ble_eq_true rfl, Nat.le_of_ble_eq_true rfl, Nat.le_of_ble_eq_true rfl⟩ dX6_starts_172 (fun r172 σ172 => ?_)
    refine j_iconst (v := 2) 2 C dX6_starts_175 (by decide) ?_
    refine j_iload_n 4 C dX6_starts_176 rfl rfl ?_
    refine j_callVV [.int x2, .int x5, .int x4, .int x6, .int r172, .int 2, .int x1] (con6_fills N x2 x5 x4 x6 r172 2 x1) C mi6_fills mv6_fills lk6_160 (by decide) (ct_84 E _) rfl rfl rfl ⟨Nat.le_of_ble_eq_true rfl, Nat.le_of_ble_eq_true rfl, Nat.le_of_ble_eq_true rfl, Nat.le_of_ble_eq_true rfl, Nat.le_of_ble_eq_true rfl⟩ dX6_starts_177 (fun σ177 => ?_)
    refine j_aload_n 3 C dX6_starts_180 rfl rfl ?_
    refine j_iload_n 5 C dX6_starts_181 rfl rfl ?_
    refine j_iload 7 C dX6_starts_182 rfl ?_
    refine j_iload 0 C dX6_starts_184 rfl ?_
    refine j_iload 8 C dX6_starts_186 rfl ?_
    refine j_aload_n 3 C dX6_starts_188 rfl rfl ?_
    refine j_iload_n 4 C dX6_starts_189 rfl rfl ?_
    refine j_bipush (v := 6) 6 C dX6_starts_190 (by decide) ?_
    refine j_callVI [.int x1, .int 6] (con6_of N x1 6) C mi6_of mv6_of lk6_92 (by decide) (ct_84 E _) rfl rfl rfl ⟨Nat.le_of_ble_eq_true rfl, Nat.le_of_ble_eq_true rfl, Nat.le_of_ble_eq_true rfl, Nat.le_of_ble_eq_true rfl, Nat.le_of_ble_eq_true rfl⟩ dX6_starts_192 (fun r192 σ192 => ?_)
    refine j_iconst (v := 3) 3 C dX6_starts_195 (by decide) ?_
    refine j_iload_n 4 C dX6_starts_196 rfl rfl ?_
    refine j_callVV [.int x2, .int x5, .int (x4 + r155), .int x6, .int r192, .int 3, .int x1] (con6_fills N x2 x5 (x4 + r155) x6 r192 3 x1) C mi6_fills mv6_fills lk6_160 (by decide) (ct_84 E _) rfl rfl rfl ⟨Nat.le_of_ble_eq_true rfl, Nat.le_of_ble_eq_true rfl, Nat.le_of_ble_eq_true rfl, Nat.le_of_ble_eq_true rfl, Nat.le_of_ble_eq_true rfl⟩ dX6_starts_197 (fun σ197 => ?_)
    refine j_aload_n 3 C dX6_starts_200 rfl rfl ?_
    refine j_iload_n 5 C dX6_starts_201 rfl rfl ?_
    refine j_iload 7 C dX6_starts_202 rfl ?_
    refine j_iload 0 C dX6_starts_204 rfl ?_
    refine j_aload_n 3 C dX6_starts_206 rfl rfl ?_
    refine j_iload_n 4 C dX6_starts_207 rfl rfl ?_
    refine j_bipush (v := 6) 6 C dX6_starts_208 (by decide) ?_
    refine j_callVI [.int x1, .int 6] (con6_of N x1 6) C mi6_of mv6_of lk6_92 (by decide) (ct_84 E _) rfl rfl rfl ⟨Nat.le_of_ble_eq_true rfl, Nat.le_of_ble_eq_true rfl, Nat.le_of_ble_eq_true rfl, Nat.le_of_ble_eq_true rfl, Nat.le_of_ble_eq_true rfl⟩ dX6_starts_210 (fun r210 σ210 => ?_)
    refine j_iadd C dX6_starts_213 ?_
    refine j_iload 8 C dX6_starts_214 rfl ?_
    refine j_aload_n 3 C dX6_starts_216 rfl rfl ?_
    refine j_iload_n 4 C dX6_starts_217 rfl rfl ?_
    refine j_bipush (v := 7) 7 C dX6_starts_218 (by decide) ?_
    refine j_callVI [.int x1, .int 7] (con6_of N x1 7) C mi6_of mv6_of lk6_92 (by decide) (ct_84 E _) rfl rfl rfl ⟨Nat.le_of_ble_eq_true rfl, Nat.le_of_ble_eq_true rfl, Nat.le_of_ble_eq_true rfl, Nat.le_of_ble_eq_true rfl, Nat.le_of_ble_eq_true rfl⟩ dX6_starts_220 (fun r220 σ220 => ?_)
    refine j_iconst (v := 4) 4 C dX6_starts_223 (by decide) ?_
    refine j_iload_n 4 C dX6_starts_224 rfl rfl ?_
    refine j_callVV [.int x2, .int x5, .int ((x4 + r155) + r210), .int x6, .int r220, .int 4, .int x1] (con6_fills N x2 x5 ((x4 + r155) + r210) x6 r220 4 x1) C mi6_fills mv6_fills lk6_160 (by decide) (ct_84 E _) rfl rfl rfl ⟨Nat.le_of_ble_eq_true rfl, Nat.le_of_ble_eq_true rfl, Nat.le_of_ble_eq_true rfl, Nat.le_of_ble_eq_true rfl, Nat.le_of_ble_eq_true rfl⟩ dX6_starts_225 (fun σ225 => ?_)
    refine j_aload_n 3 C dX6_starts_228 rfl rfl ?_
    refine j_iload_n 4 C dX6_starts_229 rfl rfl ?_
    refine j_iload_n 5 C dX6_starts_230 rfl rfl ?_
    refine j_iload 7 C dX6_starts_231 rfl ?_
    refine j_iload 6 C dX6_starts_233 rfl ?_
    refine j_iload 9 C dX6_starts_235 rfl ?_
    refine j_iadd C dX6_starts_237 ?_
    refine j_iload 8 C dX6_starts_238 rfl ?_
    refine j_iload 1 C dX6_starts_240 rfl ?_
    refine j_iload 2 C dX6_starts_242 rfl ?_
    refine j_callVV [.int x1, .int x2, .int x5, .int (x4 + x7), .int x6, .int (((y0 + x6) - 1) / x6), .int y0] (con6_linesIn N x1 x2 x5 (x4 + x7) x6 (((y0 + x6) - 1) / x6) y0) C mi6_linesIn mv6_linesIn lk6_175 (by decide) (ct_84 E _) rfl rfl rfl ⟨Nat.le_of_ble_eq_true rfl, Nat.le_of_ble_eq_true rfl, Nat.le_of_ble_eq_true rfl, Nat.le_of_ble_eq_true rfl, Nat.le_of_ble_eq_true rfl⟩ dX6_starts_244 (fun σ244 => ?_)
    refine j_iload 11 C dX6_starts_247 rfl ?_
    refine j_zeq 273 C dX6_starts_249 (by decide) ?_ ?_
    · exact j_sub [3, 4, 5, 6, 7, 8, 9, 10, 11, 2, 1] rfl (wJ273 x4 x5 x6 x7 x10 x11 y0 (((y0 + x6) - 1) / x6) σ244)
    · refine j_aload_n 3 C dX6_starts_252 rfl rfl ?_
      refine j_iload_n 5 C dX6_starts_253 rfl rfl ?_
      refine j_iload 7 C dX6_starts_254 rfl ?_
      refine j_iload 6 C dX6_starts_256 rfl ?_
      refine j_iload 9 C dX6_starts_258 rfl ?_
      refine j_iadd C dX6_starts_260 ?_
      refine j_iload 1 C dX6_starts_261 rfl ?_
      refine j_iadd C dX6_starts_263 ?_
      refine j_iload 8 C dX6_starts_264 rfl ?_
      refine j_iconst (v := 1) 1 C dX6_starts_266 (by decide) ?_
      refine j_bipush (v := 6) 6 C dX6_starts_267 (by decide) ?_
      refine j_iload_n 4 C dX6_starts_269 rfl rfl ?_
      refine j_callVV [.int x2, .int x5, .int ((x4 + x7) + (((y0 + x6) - 1) / x6)), .int x6, .int 1, .int 6, .int x1] (con6_fills N x2 x5 ((x4 + x7) + (((y0 + x6) - 1) / x6)) x6 1 6 x1) C mi6_fills mv6_fills lk6_160 (by decide) (ct_84 E _) rfl rfl rfl ⟨Nat.le_of_ble_eq_true rfl, Nat.le_of_ble_eq_true rfl, Nat.le_of_ble_eq_true rfl, Nat.le_of_ble_eq_true rfl, Nat.le_of_ble_eq_true rfl⟩ dX6_starts_270 (fun σ270 => ?_)
      exact j_sub [3, 4, 5, 6, 7, 8, 9, 10, 11, 2, 1] rfl (wJ273 x4 x5 x6 x7 x10 x11 y0 (((y0 + x6) - 1) / x6) σ270)
  have wJ109 : ∀ (x4 : Int32) (x5 : Int32) (x6 : Int32) (x7 : Int32) (x8 : Int32) (x9 : Int32) (x10 : Int32) (y0 : Int32) (σ : Hp), J E 15 p l e rm6_starts s m args below meth c (QV E below args s rm6_starts.cells rm6_starts.slots) (f6_starts_J109 N x1 x2 x3 x4 x5 x6 x7 x8 x9 x10 y0 σ) 109 [(0, .ref (ea E 84)), (1, .int x1), (2, .int x2), (4, .int x4), (5, .int x5), (6, .int x6), (7, .int x7), (8, .int x8), (9, .int x9), (10, .int x10)] [.int y0] σ 0 0 := by
    intro x4 x5 x6 x7 x8 x9 x10 y0 σ
    unfold f6_starts_J109
    refine j_istore [(11, .int y0), (0, .ref (ea E 84)), (1, .int x1), (2, .int x2), (4, .int x4), (5, .int x5), (6, .int x6), (7, .int x7), (8, .int x8), (9, .int x9), (10, .int x10)] C dX6_starts_109 (by decide) rfl ?_
    refine j_iload 0 C dX6_starts_111 rfl ?_
    refine j_zeq 126 C dX6_starts_113 (by decide) ?_ ?_
    · refine j_iload 9 C dX6_starts_126 rfl ?_
      refine j_iload 6 C dX6_starts_128 rfl ?_
      refine j_iload 8 C dX6_starts_130 rfl ?_
      refine j_imul C dX6_starts_132 ?_
      refine j_min C lm6_170 ⟨Nat.le_of_ble_eq_true rfl, Nat.le_of_ble_eq_true rfl, Nat.le_of_ble_eq_true rfl, Nat.le_of_ble_eq_true rfl⟩ dX6_starts_133 ?_
      exact j_sub [1, 2, 3, 4, 5, 6, 7, 10, 0] rfl (wJ136 x4 x5 x6 x7 x10 y0 (if (x6 * x8) < x9 then (x6 * x8) else x9) σ)
    · refine j_iload 6 C dX6_starts_116 rfl ?_
      refine j_iload 8 C dX6_starts_118 rfl ?_
      refine j_iconst (v := 1) 1 C dX6_starts_120 (by decide) ?_
      refine j_isub C dX6_starts_121 ?_
      refine j_imul C dX6_starts_122 ?_
      refine j_goto 136 C dX6_starts_123 (by decide) ?_
      exact j_sub [1, 2, 3, 4, 5, 6, 7, 10, 0] rfl (wJ136 x4 x5 x6 x7 x10 y0 (x6 * (x8 - 1)) σ)
  have wJ97 : ∀ (x4 : Int32) (x5 : Int32) (x6 : Int32) (x7 : Int32) (x8 : Int32) (x9 : Int32) (y0 : Int32) (σ : Hp), J E 15 p l e rm6_starts s m args below meth c (QV E below args s rm6_starts.cells rm6_starts.slots) (f6_starts_J97 N x1 x2 x3 x4 x5 x6 x7 x8 x9 y0 σ) 97 [(0, .ref (ea E 84)), (1, .int x1), (2, .int x2), (4, .int x4), (5, .int x5), (6, .int x6), (7, .int x7), (8, .int x8), (9, .int x9)] [.int y0] σ 0 0 := by
    intro x4 x5 x6 x7 x8 x9 y0 σ
    unfold f6_starts_J97
    refine j_istore [(10, .int y0), (0, .ref (ea E 84)), (1, .int x1), (2, .int x2), (4, .int x4), (5, .int x5), (6, .int x6), (7, .int x7), (8, .int x8), (9, .int x9)] C dX6_starts_97 (by decide) rfl ?_
    refine j_iload 0 C dX6_starts_99 rfl ?_
    refine j_zlt 108 C dX6_starts_101 (by decide) ?_ ?_
    · refine j_iconst (v := 0) 0 C dX6_starts_108 (by decide) ?_
      exact j_sub [1, 2, 3, 4, 5, 6, 7, 8, 9, 0] rfl (wJ109 x4 x5 x6 x7 x8 x9 y0 0 σ)
    · refine j_iconst (v := 1) 1 C dX6_starts_104 (by decide) ?_
      refine j_goto 109 C dX6_starts_105 (by decide) ?_
      exact j_sub [1, 2, 3, 4, 5, 6, 7, 8, 9, 0] rfl (wJ109 x4 x5 x6 x7 x8 x9 y0 1 σ)
  have wL28 : ∀ (x4 : Int32) (x5 : Int32) (x6 : Int32) (x7 : Int32) (K28 : Int32 → Hp → Option (Unit × Hp)), (∀ (x8 : Int32) (σ : Hp), J E 15 p l e rm6_starts s m args below meth c (QV E below args s rm6_starts.cells rm6_starts.slots) (K28 x8 σ) 55 [(0, .ref (ea E 84)), (1, .int x1), (2, .int x2), (4, .int x4), (5, .int x5), (6, .int x6), (7, .int x7), (8, .int x8)] [] σ 0 0) → ∀ (n28 : Nat) (x8 : Int32) (σ : Hp), J E 15 p l e rm6_starts s m args below meth c (QV E below args s rm6_starts.cells rm6_starts.slots) (f6_starts_L28 N x1 x2 x3 x4 x5 x6 x7 K28 n28 x8 σ) 28 [(0, .ref (ea E 84)), (1, .int x1), (2, .int x2), (4, .int x4), (5, .int x5), (6, .int x6), (7, .int x7), (8, .int x8)] [] σ 0 0 := by
    intro x4 x5 x6 x7 K28 HK28 n28
    induction n28 with
    | zero => intro x8 σ; exact j_none
    | succ n28 ih28 =>
      intro x8 σ
      show J E 15 p l e rm6_starts s m args below meth c (QV E below args s rm6_starts.cells rm6_starts.slots) (f6_starts_B28 N x1 x2 x3 x4 x5 x6 x7 K28 (f6_starts_L28 N x1 x2 x3 x4 x5 x6 x7 K28 n28) x8 σ) 28 [(0, .ref (ea E 84)), (1, .int x1), (2, .int x2), (4, .int x4), (5, .int x5), (6, .int x6), (7, .int x7), (8, .int x8)] [] σ 0 0
      unfold f6_starts_B28
      refine j_aload_n 0 C dX6_starts_28 rfl rfl ?_
      refine j_iload_n 2 C dX6_starts_29 rfl rfl ?_
      refine j_iload 4 C dX6_starts_30 rfl ?_
      refine j_iload 3 C dX6_starts_32 rfl ?_
      refine j_iload 5 C dX6_starts_34 rfl ?_
      refine j_iload 6 C dX6_starts_36 rfl ?_
      refine j_iload 7 C dX6_starts_38 rfl ?_
      refine j_iadd C dX6_starts_40 ?_
      refine j_iconst (v := 1) 1 C dX6_starts_41 (by decide) ?_
      refine j_iadd C dX6_starts_42 ?_
      refine j_callVI [.int x2, .int x5, .int x4, .int x6, .int ((x7 + x8) + 1)] (con6_isFree N x2 x5 x4 x6 ((x7 + x8) + 1)) C mi6_isFree mv6_isFree lk6_154 (by decide) (ct_84 E _) rfl rfl rfl ⟨Nat.le_of_ble_eq_true rfl, Nat.le_of_ble_eq_true rfl, Nat.le_of_ble_eq_true rfl, Nat.le_of_ble_eq_true rfl, Nat.le_of_ble_eq_true rfl⟩ dX6_starts_43 (fun r43 σ43 => ?_)
      refine j_zeq 55 C dX6_starts_46 (by decide) ?_ ?_
      · exact j_sub [0, 1, 2, 3, 4, 5, 6, 7] rfl (HK28 x8 σ43)
      · refine j_iinc 7 1 [(8, .int (x8 + 1)), (0, .ref (ea E 84)), (1, .int x1), (2, .int x2), (4, .int x4), (5, .int x5), (6, .int x6), (7, .int x7)] C dX6_starts_49 rfl rfl (by decide) rfl ?_
        refine j_goto 28 C dX6_starts_52 (by decide) ?_
        exact j_sub [1, 2, 3, 4, 5, 6, 7, 0] rfl (ih28 (x8 + 1) σ43)
  unfold f6_starts
  refine j_iload_n 3 C dX6_starts_0 rfl rfl ?_
  refine j_iconst (v := 5) 5 C dX6_starts_1 (by decide) ?_
  refine j_idiv C dX6_starts_2 ?_
  refine j_istore [(4, .int (x3 / (5 : Int32))), (0, .ref (ea E 84)), (1, .int x1), (2, .int x2), (3, .int x3)] C dX6_starts_3 (by decide) rfl ?_
  refine j_iload_n 4 C dX6_starts_5 rfl rfl ?_
  refine j_iconst (v := 5) 5 C dX6_starts_6 (by decide) ?_
  refine j_irem C dX6_starts_7 ?_
  refine j_istore [(5, .int (x3 - x3 / (5 : Int32) * (5 : Int32))), (4, .int (x3 / (5 : Int32))), (0, .ref (ea E 84)), (1, .int x1), (2, .int x2), (3, .int x3)] C dX6_starts_8 (by decide) rfl ?_
  refine j_aload_n 2 C dX6_starts_10 rfl rfl ?_
  refine j_iload_n 3 C dX6_starts_11 rfl rfl ?_
  refine j_iconst (v := 2) 2 C dX6_starts_12 (by decide) ?_
  refine j_callVI [.int x1, .int 2] (con6_of N x1 2) C mi6_of mv6_of lk6_92 (by decide) (ct_84 E _) rfl rfl rfl ⟨Nat.le_of_ble_eq_true rfl, Nat.le_of_ble_eq_true rfl, Nat.le_of_ble_eq_true rfl, Nat.le_of_ble_eq_true rfl, Nat.le_of_ble_eq_true rfl⟩ dX6_starts_13 (fun r13 σ13 => ?_)
  refine j_istore [(6, .int r13), (5, .int (x3 - x3 / (5 : Int32) * (5 : Int32))), (4, .int (x3 / (5 : Int32))), (0, .ref (ea E 84)), (1, .int x1), (2, .int x2), (3, .int x3)] C dX6_starts_16 (by decide) rfl ?_
  refine j_aload_n 3 C dX6_starts_18 rfl rfl ?_
  refine j_iload_n 4 C dX6_starts_19 rfl rfl ?_
  refine j_callVI [.int x1] (con6_head N x1) C mi6_head mv6_head lk6_164 (by decide) (ct_84 E _) rfl rfl rfl ⟨Nat.le_of_ble_eq_true rfl, Nat.le_of_ble_eq_true rfl, Nat.le_of_ble_eq_true rfl, Nat.le_of_ble_eq_true rfl, Nat.le_of_ble_eq_true rfl⟩ dX6_starts_20 (fun r20 σ20 => ?_)
  refine j_istore [(7, .int r20), (6, .int r13), (5, .int (x3 - x3 / (5 : Int32) * (5 : Int32))), (4, .int (x3 / (5 : Int32))), (0, .ref (ea E 84)), (1, .int x1), (2, .int x2), (3, .int x3)] C dX6_starts_23 (by decide) rfl ?_
  refine j_iconst (v := 2) 2 C dX6_starts_25 (by decide) ?_
  refine j_istore [(8, .int 2), (7, .int r20), (6, .int r13), (5, .int (x3 - x3 / (5 : Int32) * (5 : Int32))), (4, .int (x3 / (5 : Int32))), (0, .ref (ea E 84)), (1, .int x1), (2, .int x2), (3, .int x3)] C dX6_starts_26 (by decide) rfl ?_
  refine j_sub [5, 6, 7, 4, 3, 2, 1, 0] rfl (wL28 (x3 / (5 : Int32)) (x3 - x3 / (5 : Int32) * (5 : Int32)) r13 r20 _ (fun x8_28 σL28 => ?_) N 2 σ20)
  refine j_aload_n 0 C dX6_starts_55 rfl rfl ?_
  refine j_get 10 C fl6_42 (by decide) (ct_84 E _) rfl dX6_starts_56 ?_
  refine j_iload_n 1 C dX6_starts_59 rfl rfl ?_
  refine j_iload_n 2 C dX6_starts_60 rfl rfl ?_
  refine j_iast C (by decide) (ct_92 E) dX6_starts_61 ?_
  refine j_aload_n 0 C dX6_starts_62 rfl rfl ?_
  refine j_get 13 C fl6_51 (by decide) (ct_84 E _) rfl dX6_starts_63 ?_
  refine j_iload_n 1 C dX6_starts_66 rfl rfl ?_
  refine j_iload 7 C dX6_starts_67 rfl ?_
  refine j_iast C (by decide) (ct_95 E) dX6_starts_69 ?_
  refine j_aload_n 0 C dX6_starts_70 rfl rfl ?_
  refine j_iload_n 1 C dX6_starts_71 rfl rfl ?_
  refine j_iconst (v := 4) 4 C dX6_starts_72 (by decide) ?_
  refine j_callVI [.int x1, .int 4] (con6_of N x1 4) C mi6_of mv6_of lk6_92 (by decide) (ct_84 E _) rfl rfl rfl ⟨Nat.le_of_ble_eq_true rfl, Nat.le_of_ble_eq_true rfl, Nat.le_of_ble_eq_true rfl, Nat.le_of_ble_eq_true rfl, Nat.le_of_ble_eq_true rfl⟩ dX6_starts_73 (fun r73 σ73 => ?_)
  refine j_istore [(9, .int r73), (0, .ref (ea E 84)), (1, .int x1), (2, .int x2), (4, .int (x3 / (5 : Int32))), (5, .int (x3 - x3 / (5 : Int32) * (5 : Int32))), (6, .int r13), (7, .int r20), (8, .int x8_28)] C dX6_starts_76 (by decide) rfl ?_
  refine j_iload 0 C dX6_starts_78 rfl ?_
  refine j_iload 6 C dX6_starts_80 rfl ?_
  refine j_iload 8 C dX6_starts_82 rfl ?_
  refine j_imul C dX6_starts_84 ?_
  refine j_ile 96 C dX6_starts_85 (by decide) ?_ ?_
  · refine j_iconst (v := (-1)) (-1) C dX6_starts_96 (by decide) ?_
    exact j_sub [1, 2, 3, 4, 5, 6, 7, 8, 0] rfl (wJ97 (x3 / (5 : Int32)) (x3 - x3 / (5 : Int32) * (5 : Int32)) r13 r20 x8_28 r73 (-1) σ73)
  · refine j_aload_n 1 C dX6_starts_88 rfl rfl ?_
    refine j_iload_n 3 C dX6_starts_89 rfl rfl ?_
    refine j_callVI [.int x2] (con6_goesOn N x2) C mi6_goesOn mv6_goesOn lk6_167 (by decide) (ct_84 E _) rfl rfl rfl ⟨Nat.le_of_ble_eq_true rfl, Nat.le_of_ble_eq_true rfl, Nat.le_of_ble_eq_true rfl, Nat.le_of_ble_eq_true rfl, Nat.le_of_ble_eq_true rfl⟩ dX6_starts_90 (fun r90 σ90 => ?_)
    refine j_goto 97 C dX6_starts_93 (by decide) ?_
    exact j_sub [1, 2, 3, 4, 5, 6, 7, 8, 0] rfl (wJ97 (x3 / (5 : Int32)) (x3 - x3 / (5 : Int32) * (5 : Int32)) r13 r20 x8_28 r73 r90 σ90)
set_option maxHeartbeats 4000000 in
set_option maxRecDepth 100000 in
theorem con6_places (N : Nat) (x1 : Int32) : ConV yX6_places cX6_places 5 rm6_places (fun E => [.ref (ea E 84), .int x1]) (f6_places N x1) := by
  refine conV_of (L := fun E => [(0, .ref (ea E 84)), (1, .int x1)]) (by decide) (fun _ => Nat.le_of_ble_eq_true rfl) (fun _ => rfl) ?_
  intro l E σ p e s m args below meth c C hr hlocks
  have wL43 : ∀ (x2 : Int32) (K43 : Hp → Option (Unit × Hp)), (∀ (σ : Hp), J E 5 p l e rm6_places s m args below meth c (QV E below args s rm6_places.cells rm6_places.slots) (K43 σ) 91 [] [] σ 0 0) → ∀ (n43 : Nat) (x3 : Int32) (σ : Hp), J E 5 p l e rm6_places s m args below meth c (QV E below args s rm6_places.cells rm6_places.slots) (f6_places_L43 N x1 x2 K43 n43 x3 σ) 43 [(0, .ref (ea E 84)), (1, .int x1), (2, .int x2), (3, .int x3)] [] σ 0 0 := by
    intro x2 K43 HK43 n43
    induction n43 with
    | zero => intro x3 σ; exact j_none
    | succ n43 ih43 =>
      intro x3 σ
      show J E 5 p l e rm6_places s m args below meth c (QV E below args s rm6_places.cells rm6_places.slots) (f6_places_B43 N x1 x2 K43 (f6_places_L43 N x1 x2 K43 n43) x3 σ) 43 [(0, .ref (ea E 84)), (1, .int x1), (2, .int x2), (3, .int x3)] [] σ 0 0
      unfold f6_places_B43
      refine j_iload_n 3 C dX6_places_43 rfl rfl ?_
      refine j_iload_n 2 C dX6_places_44 rfl rfl ?_
      refine j_igt 91 C dX6_places_45 (by decide) ?_ ?_
      · exact j_sub [] rfl (HK43 σ)
      · refine j_aload_n 0 C dX6_places_48 rfl rfl ?_
        refine j_iload_n 3 C dX6_places_49 rfl rfl ?_
        refine j_aload_n 0 C dX6_places_50 rfl rfl ?_
        refine j_iload_n 1 C dX6_places_51 rfl rfl ?_
        refine j_iconst (v := 2) 2 C dX6_places_52 (by decide) ?_
        refine j_callVI [.int x1, .int 2] (con6_of N x1 2) C mi6_of mv6_of lk6_92 (by decide) (ct_84 E _) rfl rfl rfl ⟨Nat.le_of_ble_eq_true rfl, Nat.le_of_ble_eq_true rfl, Nat.le_of_ble_eq_true rfl, Nat.le_of_ble_eq_true rfl, Nat.le_of_ble_eq_true rfl⟩ dX6_places_53 (fun r53 σ53 => ?_)
        refine j_aload_n 0 C dX6_places_56 rfl rfl ?_
        refine j_iload_n 1 C dX6_places_57 rfl rfl ?_
        refine j_callVI [.int x1] (con6_head N x1) C mi6_head mv6_head lk6_164 (by decide) (ct_84 E _) rfl rfl rfl ⟨Nat.le_of_ble_eq_true rfl, Nat.le_of_ble_eq_true rfl, Nat.le_of_ble_eq_true rfl, Nat.le_of_ble_eq_true rfl, Nat.le_of_ble_eq_true rfl⟩ dX6_places_58 (fun r58 σ58 => ?_)
        refine j_iconst (v := 2) 2 C dX6_places_61 (by decide) ?_
        refine j_iadd C dX6_places_62 ?_
        refine j_callVI [.int x3, .int r53, .int (r58 + 2)] (con6_block N x3 r53 (r58 + 2)) C mi6_block mv6_block lk6_157 (by decide) (ct_84 E _) rfl rfl rfl ⟨Nat.le_of_ble_eq_true rfl, Nat.le_of_ble_eq_true rfl, Nat.le_of_ble_eq_true rfl, Nat.le_of_ble_eq_true rfl, Nat.le_of_ble_eq_true rfl⟩ dX6_places_63 (fun r63 σ63 => ?_)
        refine j_istore [(4, .int r63), (0, .ref (ea E 84)), (1, .int x1), (2, .int x2), (3, .int x3)] C dX6_places_66 (by decide) rfl ?_
        refine j_iload 0 C dX6_places_68 rfl ?_
        refine j_zge 76 C dX6_places_70 (by decide) ?_ ?_
        · refine j_aload_n 1 C dX6_places_76 rfl rfl ?_
          refine j_iload_n 2 C dX6_places_77 rfl rfl ?_
          refine j_iload_n 4 C dX6_places_78 rfl rfl ?_
          refine j_iload 0 C dX6_places_79 rfl ?_
          refine j_callVV [.int x1, .int x3, .int r63] (con6_starts N x1 x3 r63) C mi6_starts mv6_starts lk6_186 (by decide) (ct_84 E _) rfl rfl rfl ⟨Nat.le_of_ble_eq_true rfl, Nat.le_of_ble_eq_true rfl, Nat.le_of_ble_eq_true rfl, Nat.le_of_ble_eq_true rfl, Nat.le_of_ble_eq_true rfl⟩ dX6_places_81 (fun σ81 => ?_)
          exact j_vret C hr hlocks dX6_places_84 (Nat.le_of_ble_eq_true rfl) (Nat.le_of_ble_eq_true rfl)
        · refine j_goto 85 C dX6_places_73 (by decide) ?_
          refine j_iinc 4 1 [(3, .int (x3 + 1)), (4, .int r63), (0, .ref (ea E 84)), (1, .int x1), (2, .int x2)] C dX6_places_85 rfl rfl (by decide) rfl ?_
          refine j_goto 43 C dX6_places_88 (by decide) ?_
          exact j_sub [2, 3, 4, 0] rfl (ih43 (x3 + 1) σ63)
  have wJ35 : ∀ (y0 : Int32) (σ : Hp), J E 5 p l e rm6_places s m args below meth c (QV E below args s rm6_places.cells rm6_places.slots) (f6_places_J35 N x1 y0 σ) 35 [(0, .ref (ea E 84)), (1, .int x1)] [.int y0] σ 0 0 := by
    intro y0 σ
    unfold f6_places_J35
    refine j_istore_n [(2, .int y0), (0, .ref (ea E 84)), (1, .int x1)] C dX6_places_35 rfl (by decide) rfl ?_
    refine j_aload_n 1 C dX6_places_36 rfl rfl ?_
    refine j_iload_n 2 C dX6_places_37 rfl rfl ?_
    refine j_iconst (v := 1) 1 C dX6_places_38 (by decide) ?_
    refine j_callVI [.int x1, .int 1] (con6_of N x1 1) C mi6_of mv6_of lk6_92 (by decide) (ct_84 E _) rfl rfl rfl ⟨Nat.le_of_ble_eq_true rfl, Nat.le_of_ble_eq_true rfl, Nat.le_of_ble_eq_true rfl, Nat.le_of_ble_eq_true rfl, Nat.le_of_ble_eq_true rfl⟩ dX6_places_39 (fun r39 σ39 => ?_)
    refine j_istore_n [(3, .int r39), (2, .int y0), (0, .ref (ea E 84)), (1, .int x1)] C dX6_places_42 rfl (by decide) rfl ?_
    refine j_sub [2, 3, 1, 0] rfl (wL43 y0 _ (fun σL43 => ?_) N r39 σ39)
    exact j_vret C hr hlocks dX6_places_91 (Nat.le_of_ble_eq_true rfl) (Nat.le_of_ble_eq_true rfl)
  unfold f6_places
  refine j_aload_n 0 C dX6_places_0 rfl rfl ?_
  refine j_get 10 C fl6_42 (by decide) (ct_84 E _) rfl dX6_places_1 ?_
  refine j_iload_n 1 C dX6_places_4 rfl rfl ?_
  refine j_iconst (v := (-1)) (-1) C dX6_places_5 (by decide) ?_
  refine j_iast C (by decide) (ct_92 E) dX6_places_6 ?_
  refine j_aload_n 0 C dX6_places_7 rfl rfl ?_
  refine j_get 11 C fl6_45 (by decide) (ct_84 E _) rfl dX6_places_8 ?_
  refine j_iload_n 1 C dX6_places_11 rfl rfl ?_
  refine j_iconst (v := 0) 0 C dX6_places_12 (by decide) ?_
  refine j_iast C (by decide) (ct_93 E) dX6_places_13 ?_
  refine j_aload_n 0 C dX6_places_14 rfl rfl ?_
  refine j_iload_n 1 C dX6_places_15 rfl rfl ?_
  refine j_bipush (v := 8) 8 C dX6_places_16 (by decide) ?_
  refine j_callVI [.int x1, .int 8] (con6_of N x1 8) C mi6_of mv6_of lk6_92 (by decide) (ct_84 E _) rfl rfl rfl ⟨Nat.le_of_ble_eq_true rfl, Nat.le_of_ble_eq_true rfl, Nat.le_of_ble_eq_true rfl, Nat.le_of_ble_eq_true rfl, Nat.le_of_ble_eq_true rfl⟩ dX6_places_18 (fun r18 σ18 => ?_)
  refine j_iconst (v := 1) 1 C dX6_places_21 (by decide) ?_
  refine j_ine 34 C dX6_places_22 (by decide) ?_ ?_
  · refine j_iconst (v := 3) 3 C dX6_places_34 (by decide) ?_
    exact j_sub [0, 1] rfl (wJ35 3 σ18)
  · refine j_aload_n 0 C dX6_places_25 rfl rfl ?_
    refine j_iload_n 1 C dX6_places_26 rfl rfl ?_
    refine j_iconst (v := 1) 1 C dX6_places_27 (by decide) ?_
    refine j_callVI [.int x1, .int 1] (con6_of N x1 1) C mi6_of mv6_of lk6_92 (by decide) (ct_84 E _) rfl rfl rfl ⟨Nat.le_of_ble_eq_true rfl, Nat.le_of_ble_eq_true rfl, Nat.le_of_ble_eq_true rfl, Nat.le_of_ble_eq_true rfl, Nat.le_of_ble_eq_true rfl⟩ dX6_places_28 (fun r28 σ28 => ?_)
    refine j_goto 35 C dX6_places_31 (by decide) ?_
    exact j_sub [0, 1] rfl (wJ35 r28 σ28)
set_option maxHeartbeats 4000000 in
set_option maxRecDepth 100000 in
theorem con6_lays (N : Nat) (x1 : Int32) : ConV yX6_lays cX6_lays 3 rm6_lays (fun E => [.ref (ea E 84), .int x1]) (f6_lays N x1) := by
  refine conV_of (L := fun E => [(0, .ref (ea E 84)), (1, .int x1)]) (by decide) (fun _ => Nat.le_of_ble_eq_true rfl) (fun _ => rfl) ?_
  intro l E σ p e s m args below meth c C hr hlocks
  have wL98 : ∀ (K98 : Hp → Option (Unit × Hp)), (∀ (σ : Hp), J E 3 p l e rm6_lays s m args below meth c (QV E below args s rm6_lays.cells rm6_lays.slots) (K98 σ) 132 [] [] σ 0 0) → ∀ (n98 : Nat) (x2 : Int32) (σ : Hp), J E 3 p l e rm6_lays s m args below meth c (QV E below args s rm6_lays.cells rm6_lays.slots) (f6_lays_L98 N x1 K98 n98 x2 σ) 98 [(0, .ref (ea E 84)), (1, .int x1), (2, .int x2)] [] σ 0 0 := by
    intro K98 HK98 n98
    induction n98 with
    | zero => intro x2 σ; exact j_none
    | succ n98 ih98 =>
      have wJ126 : ∀ (x2 : Int32) (σ : Hp), J E 3 p l e rm6_lays s m args below meth c (QV E below args s rm6_lays.cells rm6_lays.slots) (f6_lays_J126 N x1 K98 (f6_lays_L98 N x1 K98 n98) x2 σ) 126 [(0, .ref (ea E 84)), (1, .int x1), (2, .int x2)] [] σ 0 0 := by
        intro x2 σ
        unfold f6_lays_J126
        refine j_iinc 2 1 [(2, .int (x2 + 1)), (0, .ref (ea E 84)), (1, .int x1)] C dX6_lays_126 rfl rfl (by decide) rfl ?_
        refine j_goto 98 C dX6_lays_129 (by decide) ?_
        exact j_sub [1, 2, 0] rfl (ih98 (x2 + 1) σ)
      intro x2 σ
      show J E 3 p l e rm6_lays s m args below meth c (QV E below args s rm6_lays.cells rm6_lays.slots) (f6_lays_B98 N x1 K98 (f6_lays_L98 N x1 K98 n98) x2 σ) 98 [(0, .ref (ea E 84)), (1, .int x1), (2, .int x2)] [] σ 0 0
      unfold f6_lays_B98
      refine j_iload_n 2 C dX6_lays_98 rfl rfl ?_
      refine j_aload_n 0 C dX6_lays_99 rfl rfl ?_
      refine j_get 14 C fl6_54 (by decide) (ct_84 E _) rfl dX6_lays_100 ?_
      refine j_ige 132 C dX6_lays_103 (by decide) ?_ ?_
      · exact j_sub [] rfl (HK98 σ)
      · refine j_aload_n 0 C dX6_lays_106 rfl rfl ?_
        refine j_get 9 C fl6_39 (by decide) (ct_84 E _) rfl dX6_lays_107 ?_
        refine j_iload_n 2 C dX6_lays_110 rfl rfl ?_
        refine j_iald C (by decide) (ct_91 E _) dX6_lays_111 ?_
        refine j_iload_n 1 C dX6_lays_112 rfl rfl ?_
        refine j_ieq 126 C dX6_lays_113 (by decide) ?_ ?_
        · exact j_sub [0, 1, 2] rfl (wJ126 x2 σ)
        · refine j_aload_n 0 C dX6_lays_116 rfl rfl ?_
          refine j_aload_n 0 C dX6_lays_117 rfl rfl ?_
          refine j_get 9 C fl6_39 (by decide) (ct_84 E _) rfl dX6_lays_118 ?_
          refine j_iload_n 2 C dX6_lays_121 rfl rfl ?_
          refine j_iald C (by decide) (ct_91 E _) dX6_lays_122 ?_
          refine j_callVV [.int (σ 91 x2.toNatClampNeg)] (con6_places N (σ 91 x2.toNatClampNeg)) C mi6_places mv6_places lk6_191 (by decide) (ct_84 E _) rfl rfl rfl ⟨Nat.le_of_ble_eq_true rfl, Nat.le_of_ble_eq_true rfl, Nat.le_of_ble_eq_true rfl, Nat.le_of_ble_eq_true rfl, Nat.le_of_ble_eq_true rfl⟩ dX6_lays_123 (fun σ123 => ?_)
          exact j_sub [0, 1, 2] rfl (wJ126 x2 σ123)
  have wL31 : ∀ (K31 : Hp → Option (Unit × Hp)), (∀ (σ : Hp), J E 3 p l e rm6_lays s m args below meth c (QV E below args s rm6_lays.cells rm6_lays.slots) (K31 σ) 92 [(0, .ref (ea E 84)), (1, .int x1)] [] σ 0 0) → ∀ (n31 : Nat) (x2 : Int32) (σ : Hp), J E 3 p l e rm6_lays s m args below meth c (QV E below args s rm6_lays.cells rm6_lays.slots) (f6_lays_L31 N x1 K31 n31 x2 σ) 31 [(0, .ref (ea E 84)), (1, .int x1), (2, .int x2)] [] σ 0 0 := by
    intro K31 HK31 n31
    induction n31 with
    | zero => intro x2 σ; exact j_none
    | succ n31 ih31 =>
      have wJ86 : ∀ (x2 : Int32) (σ : Hp), J E 3 p l e rm6_lays s m args below meth c (QV E below args s rm6_lays.cells rm6_lays.slots) (f6_lays_J86 N x1 K31 (f6_lays_L31 N x1 K31 n31) x2 σ) 86 [(0, .ref (ea E 84)), (1, .int x1), (2, .int x2)] [] σ 0 0 := by
        intro x2 σ
        unfold f6_lays_J86
        refine j_iinc 2 1 [(2, .int (x2 + 1)), (0, .ref (ea E 84)), (1, .int x1)] C dX6_lays_86 rfl rfl (by decide) rfl ?_
        refine j_goto 31 C dX6_lays_89 (by decide) ?_
        exact j_sub [1, 2, 0] rfl (ih31 (x2 + 1) σ)
      intro x2 σ
      show J E 3 p l e rm6_lays s m args below meth c (QV E below args s rm6_lays.cells rm6_lays.slots) (f6_lays_B31 N x1 K31 (f6_lays_L31 N x1 K31 n31) x2 σ) 31 [(0, .ref (ea E 84)), (1, .int x1), (2, .int x2)] [] σ 0 0
      unfold f6_lays_B31
      refine j_iload_n 2 C dX6_lays_31 rfl rfl ?_
      refine j_bipush (v := 8) 8 C dX6_lays_32 (by decide) ?_
      refine j_ige 92 C dX6_lays_34 (by decide) ?_ ?_
      · exact j_sub [0, 1] rfl (HK31 σ)
      · refine j_aload_n 0 C dX6_lays_37 rfl rfl ?_
        refine j_iload_n 2 C dX6_lays_38 rfl rfl ?_
        refine j_iconst (v := 0) 0 C dX6_lays_39 (by decide) ?_
        refine j_callVI [.int x2, .int 0] (con6_ad N x2 0) C mi6_ad mv6_ad lk6_96 (by decide) (ct_84 E _) rfl rfl rfl ⟨Nat.le_of_ble_eq_true rfl, Nat.le_of_ble_eq_true rfl, Nat.le_of_ble_eq_true rfl, Nat.le_of_ble_eq_true rfl, Nat.le_of_ble_eq_true rfl⟩ dX6_lays_40 (fun r40 σ40 => ?_)
        refine j_iconst (v := 1) 1 C dX6_lays_43 (by decide) ?_
        refine j_ine 86 C dX6_lays_44 (by decide) ?_ ?_
        · exact j_sub [0, 1, 2] rfl (wJ86 x2 σ40)
        · refine j_aload_n 0 C dX6_lays_47 rfl rfl ?_
          refine j_aload_n 0 C dX6_lays_48 rfl rfl ?_
          refine j_iload_n 2 C dX6_lays_49 rfl rfl ?_
          refine j_iconst (v := 1) 1 C dX6_lays_50 (by decide) ?_
          refine j_callVI [.int x2, .int 1] (con6_ad N x2 1) C mi6_ad mv6_ad lk6_96 (by decide) (ct_84 E _) rfl rfl rfl ⟨Nat.le_of_ble_eq_true rfl, Nat.le_of_ble_eq_true rfl, Nat.le_of_ble_eq_true rfl, Nat.le_of_ble_eq_true rfl, Nat.le_of_ble_eq_true rfl⟩ dX6_lays_51 (fun r51 σ51 => ?_)
          refine j_aload_n 0 C dX6_lays_54 rfl rfl ?_
          refine j_iload_n 2 C dX6_lays_55 rfl rfl ?_
          refine j_iconst (v := 2) 2 C dX6_lays_56 (by decide) ?_
          refine j_callVI [.int x2, .int 2] (con6_ad N x2 2) C mi6_ad mv6_ad lk6_96 (by decide) (ct_84 E _) rfl rfl rfl ⟨Nat.le_of_ble_eq_true rfl, Nat.le_of_ble_eq_true rfl, Nat.le_of_ble_eq_true rfl, Nat.le_of_ble_eq_true rfl, Nat.le_of_ble_eq_true rfl⟩ dX6_lays_57 (fun r57 σ57 => ?_)
          refine j_aload_n 0 C dX6_lays_60 rfl rfl ?_
          refine j_iload_n 2 C dX6_lays_61 rfl rfl ?_
          refine j_iconst (v := 3) 3 C dX6_lays_62 (by decide) ?_
          refine j_callVI [.int x2, .int 3] (con6_ad N x2 3) C mi6_ad mv6_ad lk6_96 (by decide) (ct_84 E _) rfl rfl rfl ⟨Nat.le_of_ble_eq_true rfl, Nat.le_of_ble_eq_true rfl, Nat.le_of_ble_eq_true rfl, Nat.le_of_ble_eq_true rfl, Nat.le_of_ble_eq_true rfl⟩ dX6_lays_63 (fun r63 σ63 => ?_)
          refine j_aload_n 0 C dX6_lays_66 rfl rfl ?_
          refine j_iload_n 2 C dX6_lays_67 rfl rfl ?_
          refine j_iconst (v := 4) 4 C dX6_lays_68 (by decide) ?_
          refine j_callVI [.int x2, .int 4] (con6_ad N x2 4) C mi6_ad mv6_ad lk6_96 (by decide) (ct_84 E _) rfl rfl rfl ⟨Nat.le_of_ble_eq_true rfl, Nat.le_of_ble_eq_true rfl, Nat.le_of_ble_eq_true rfl, Nat.le_of_ble_eq_true rfl, Nat.le_of_ble_eq_true rfl⟩ dX6_lays_69 (fun r69 σ69 => ?_)
          refine j_aload_n 0 C dX6_lays_72 rfl rfl ?_
          refine j_iload_n 2 C dX6_lays_73 rfl rfl ?_
          refine j_iconst (v := 5) 5 C dX6_lays_74 (by decide) ?_
          refine j_callVI [.int x2, .int 5] (con6_ad N x2 5) C mi6_ad mv6_ad lk6_96 (by decide) (ct_84 E _) rfl rfl rfl ⟨Nat.le_of_ble_eq_true rfl, Nat.le_of_ble_eq_true rfl, Nat.le_of_ble_eq_true rfl, Nat.le_of_ble_eq_true rfl, Nat.le_of_ble_eq_true rfl⟩ dX6_lays_75 (fun r75 σ75 => ?_)
          refine j_iconst (v := 1) 1 C dX6_lays_78 (by decide) ?_
          refine j_bipush (v := 100) 100 C dX6_lays_79 (by decide) ?_
          refine j_iload_n 2 C dX6_lays_81 rfl rfl ?_
          refine j_iadd C dX6_lays_82 ?_
          refine j_callVV [.int r51, .int r57, .int r63, .int r69, .int r75, .int 1, .int (100 + x2)] (con6_fills N r51 r57 r63 r69 r75 1 (100 + x2)) C mi6_fills mv6_fills lk6_160 (by decide) (ct_84 E _) rfl rfl rfl ⟨Nat.le_of_ble_eq_true rfl, Nat.le_of_ble_eq_true rfl, Nat.le_of_ble_eq_true rfl, Nat.le_of_ble_eq_true rfl, Nat.le_of_ble_eq_true rfl⟩ dX6_lays_83 (fun σ83 => ?_)
          exact j_sub [0, 1, 2] rfl (wJ86 x2 σ83)
  have wL2 : ∀ (K2 : Hp → Option (Unit × Hp)), (∀ (σ : Hp), J E 3 p l e rm6_lays s m args below meth c (QV E below args s rm6_lays.cells rm6_lays.slots) (K2 σ) 29 [(0, .ref (ea E 84)), (1, .int x1)] [] σ 0 0) → ∀ (n2 : Nat) (x2 : Int32) (σ : Hp), J E 3 p l e rm6_lays s m args below meth c (QV E below args s rm6_lays.cells rm6_lays.slots) (f6_lays_L2 N x1 K2 n2 x2 σ) 2 [(0, .ref (ea E 84)), (1, .int x1), (2, .int x2)] [] σ 0 0 := by
    intro K2 HK2 n2
    induction n2 with
    | zero => intro x2 σ; exact j_none
    | succ n2 ih2 =>
      intro x2 σ
      show J E 3 p l e rm6_lays s m args below meth c (QV E below args s rm6_lays.cells rm6_lays.slots) (f6_lays_B2 N x1 K2 (f6_lays_L2 N x1 K2 n2) x2 σ) 2 [(0, .ref (ea E 84)), (1, .int x1), (2, .int x2)] [] σ 0 0
      unfold f6_lays_B2
      refine j_iload_n 2 C dX6_lays_2 rfl rfl ?_
      refine j_sipush (v := 480) 480 C dX6_lays_3 (by decide) ?_
      refine j_ige 29 C dX6_lays_6 (by decide) ?_ ?_
      · exact j_sub [0, 1] rfl (HK2 σ)
      · refine j_aload_n 0 C dX6_lays_9 rfl rfl ?_
        refine j_get 7 C fl6_33 (by decide) (ct_84 E _) rfl dX6_lays_10 ?_
        refine j_iload_n 2 C dX6_lays_13 rfl rfl ?_
        refine j_iconst (v := 0) 0 C dX6_lays_14 (by decide) ?_
        refine j_iast C (by decide) (ct_89 E) dX6_lays_15 ?_
        refine j_aload_n 0 C dX6_lays_16 rfl rfl ?_
        refine j_get 8 C fl6_36 (by decide) (ct_84 E _) rfl dX6_lays_17 ?_
        refine j_iload_n 2 C dX6_lays_20 rfl rfl ?_
        refine j_iconst (v := (-1)) (-1) C dX6_lays_21 (by decide) ?_
        refine j_iast C (by decide) (ct_90 E) dX6_lays_22 ?_
        refine j_iinc 2 1 [(2, .int (x2 + 1)), (0, .ref (ea E 84)), (1, .int x1)] C dX6_lays_23 rfl rfl (by decide) rfl ?_
        refine j_goto 2 C dX6_lays_26 (by decide) ?_
        exact j_sub [1, 2, 0] rfl (ih2 (x2 + 1) (st (st σ 89 x2.toNatClampNeg 0) 90 x2.toNatClampNeg (-1)))
  unfold f6_lays
  refine j_iconst (v := 0) 0 C dX6_lays_0 (by decide) ?_
  refine j_istore_n [(2, .int 0), (0, .ref (ea E 84)), (1, .int x1)] C dX6_lays_1 rfl (by decide) rfl ?_
  refine j_sub [1, 2, 0] rfl (wL2 _ (fun σL2 => ?_) N 0 σ)
  refine j_iconst (v := 0) 0 C dX6_lays_29 (by decide) ?_
  refine j_istore_n [(2, .int 0), (0, .ref (ea E 84)), (1, .int x1)] C dX6_lays_30 rfl (by decide) rfl ?_
  refine j_sub [1, 2, 0] rfl (wL31 _ (fun σL31 => ?_) N 0 σL2)
  refine j_aload_n 0 C dX6_lays_92 rfl rfl ?_
  refine j_callVV [] (con6_ranks N) C mi6_ranks mv6_ranks lk6_188 (by decide) (ct_84 E _) rfl rfl rfl ⟨Nat.le_of_ble_eq_true rfl, Nat.le_of_ble_eq_true rfl, Nat.le_of_ble_eq_true rfl, Nat.le_of_ble_eq_true rfl, Nat.le_of_ble_eq_true rfl⟩ dX6_lays_93 (fun σ93 => ?_)
  refine j_iconst (v := 0) 0 C dX6_lays_96 (by decide) ?_
  refine j_istore_n [(2, .int 0), (0, .ref (ea E 84)), (1, .int x1)] C dX6_lays_97 rfl (by decide) rfl ?_
  refine j_sub [1, 2, 0] rfl (wL98 _ (fun σL98 => ?_) N 0 σ93)
  exact j_vret C hr hlocks dX6_lays_132 (Nat.le_of_ble_eq_true rfl) (Nat.le_of_ble_eq_true rfl)
set_option maxHeartbeats 4000000 in
set_option maxRecDepth 100000 in
theorem con6_asks (N : Nat) : ConV yX6_asks cX6_asks 1 rm6_asks (fun E => [.ref (ea E 84)]) (f6_asks N) := by
  refine conV_of (L := fun E => [(0, .ref (ea E 84))]) (by decide) (fun _ => Nat.le_of_ble_eq_true rfl) (fun _ => rfl) ?_
  intro l E σ p e s m args below meth c C hr hlocks
  unfold f6_asks
  refine j_aload_n 0 C dX6_asks_0 rfl rfl ?_
  refine j_iconst (v := 0) 0 C dX6_asks_1 (by decide) ?_
  refine j_put 0 C fl6_3 rfl rfl rfl (by decide) (ct_84 E _) (Nat.le_of_ble_eq_true rfl) (ct_84 E _) dX6_asks_2 ?_
  refine j_aload_n 0 C dX6_asks_5 rfl rfl ?_
  refine j_iconst (v := (-1)) (-1) C dX6_asks_6 (by decide) ?_
  refine j_callVV [.int (-1)] (con6_lays N (-1)) C mi6_lays mv6_lays lk6_195 (by decide) (ct_84 E _) rfl rfl rfl ⟨Nat.le_of_ble_eq_true rfl, Nat.le_of_ble_eq_true rfl, Nat.le_of_ble_eq_true rfl, Nat.le_of_ble_eq_true rfl, Nat.le_of_ble_eq_true rfl⟩ dX6_asks_7 (fun σ7 => ?_)
  exact j_vret C hr hlocks dX6_asks_10 (Nat.le_of_ble_eq_true rfl) (Nat.le_of_ble_eq_true rfl)
set_option maxHeartbeats 4000000 in
set_option maxRecDepth 100000 in
theorem con6_linesOn (N : Nat) (x1 : Int32) : ConI yX6_linesOn cX6_linesOn 4 .int rm6_linesOn (fun E => [.ref (ea E 84), .int x1]) (f6_linesOn N x1) := by
  refine conI_of (L := fun E => [(0, .ref (ea E 84)), (1, .int x1)]) (by decide) (fun _ => Nat.le_of_ble_eq_true rfl) (fun _ => rfl) ?_
  intro l E σ p e s m args below meth c C hr hlocks
  have wL4 : ∀ (K4 : Int32 → Hp → Option (Int32 × Hp)), (∀ (x2 : Int32) (σ : Hp), J E 4 p l e rm6_linesOn s m args below meth c (QI E below args s rm6_linesOn.cells rm6_linesOn.slots) (K4 x2 σ) 38 [(2, .int x2)] [] σ 0 0) → ∀ (n4 : Nat) (x2 : Int32) (x3 : Int32) (σ : Hp), J E 4 p l e rm6_linesOn s m args below meth c (QI E below args s rm6_linesOn.cells rm6_linesOn.slots) (f6_linesOn_L4 N x1 K4 n4 x2 x3 σ) 4 [(0, .ref (ea E 84)), (1, .int x1), (2, .int x2), (3, .int x3)] [] σ 0 0 := by
    intro K4 HK4 n4
    induction n4 with
    | zero => intro x2 x3 σ; exact j_none
    | succ n4 ih4 =>
      intro x2 x3 σ
      show J E 4 p l e rm6_linesOn s m args below meth c (QI E below args s rm6_linesOn.cells rm6_linesOn.slots) (f6_linesOn_B4 N x1 K4 (f6_linesOn_L4 N x1 K4 n4) x2 x3 σ) 4 [(0, .ref (ea E 84)), (1, .int x1), (2, .int x2), (3, .int x3)] [] σ 0 0
      unfold f6_linesOn_B4
      refine j_iload_n 3 C dX6_linesOn_4 rfl rfl ?_
      refine j_aload_n 0 C dX6_linesOn_5 rfl rfl ?_
      refine j_get 11 C fl6_45 (by decide) (ct_84 E _) rfl dX6_linesOn_6 ?_
      refine j_iload_n 1 C dX6_linesOn_9 rfl rfl ?_
      refine j_iald C (by decide) (ct_93 E _) dX6_linesOn_10 ?_
      refine j_ige 38 C dX6_linesOn_11 (by decide) ?_ ?_
      · exact j_sub [2] rfl (HK4 x2 σ)
      · refine j_iload_n 2 C dX6_linesOn_14 rfl rfl ?_
        refine j_aload_n 0 C dX6_linesOn_15 rfl rfl ?_
        refine j_get 12 C fl6_48 (by decide) (ct_84 E _) rfl dX6_linesOn_16 ?_
        refine j_bipush (v := 8) 8 C dX6_linesOn_19 (by decide) ?_
        refine j_iconst (v := 4) 4 C dX6_linesOn_21 (by decide) ?_
        refine j_iload_n 1 C dX6_linesOn_22 rfl rfl ?_
        refine j_imul C dX6_linesOn_23 ?_
        refine j_iload_n 3 C dX6_linesOn_24 rfl rfl ?_
        refine j_iadd C dX6_linesOn_25 ?_
        refine j_imul C dX6_linesOn_26 ?_
        refine j_iconst (v := 5) 5 C dX6_linesOn_27 (by decide) ?_
        refine j_iadd C dX6_linesOn_28 ?_
        refine j_iald C (by decide) (ct_94 E _) dX6_linesOn_29 ?_
        refine j_iadd C dX6_linesOn_30 ?_
        refine j_istore_n [(2, .int (x2 + (σ 94 ((8 * ((4 * x1) + x3)) + 5).toNatClampNeg))), (0, .ref (ea E 84)), (1, .int x1), (3, .int x3)] C dX6_linesOn_31 rfl (by decide) rfl ?_
        refine j_iinc 3 1 [(3, .int (x3 + 1)), (2, .int (x2 + (σ 94 ((8 * ((4 * x1) + x3)) + 5).toNatClampNeg))), (0, .ref (ea E 84)), (1, .int x1)] C dX6_linesOn_32 rfl rfl (by decide) rfl ?_
        refine j_goto 4 C dX6_linesOn_35 (by decide) ?_
        exact j_sub [2, 3, 1, 0] rfl (ih4 (x2 + (σ 94 ((8 * ((4 * x1) + x3)) + 5).toNatClampNeg)) (x3 + 1) σ)
  unfold f6_linesOn
  refine j_iconst (v := 0) 0 C dX6_linesOn_0 (by decide) ?_
  refine j_istore_n [(2, .int 0), (0, .ref (ea E 84)), (1, .int x1)] C dX6_linesOn_1 rfl (by decide) rfl ?_
  refine j_iconst (v := 0) 0 C dX6_linesOn_2 (by decide) ?_
  refine j_istore_n [(3, .int 0), (2, .int 0), (0, .ref (ea E 84)), (1, .int x1)] C dX6_linesOn_3 rfl (by decide) rfl ?_
  refine j_sub [2, 3, 1, 0] rfl (wL4 _ (fun x2_4 σL4 => ?_) N 0 0 σ)
  refine j_iload_n 0 C dX6_linesOn_38 rfl rfl ?_
  exact j_iret C hr hlocks rfl dX6_linesOn_39 (Nat.le_of_ble_eq_true rfl) (Nat.le_of_ble_eq_true rfl)
set_option maxHeartbeats 4000000 in
set_option maxRecDepth 100000 in
theorem con6_rankOf (N : Nat) (x1 : Int32) : ConI yX6_rankOf cX6_rankOf 3 .int rm6_rankOf (fun E => [.ref (ea E 84), .int x1]) (f6_rankOf N x1) := by
  refine conI_of (L := fun E => [(0, .ref (ea E 84)), (1, .int x1)]) (by decide) (fun _ => Nat.le_of_ble_eq_true rfl) (fun _ => rfl) ?_
  intro l E σ p e s m args below meth c C hr hlocks
  have wL2 : ∀ (K2 : Hp → Option (Int32 × Hp)), (∀ (σ : Hp), J E 3 p l e rm6_rankOf s m args below meth c (QI E below args s rm6_rankOf.cells rm6_rankOf.slots) (K2 σ) 28 [] [] σ 0 0) → ∀ (n2 : Nat) (x2 : Int32) (σ : Hp), J E 3 p l e rm6_rankOf s m args below meth c (QI E below args s rm6_rankOf.cells rm6_rankOf.slots) (f6_rankOf_L2 N x1 K2 n2 x2 σ) 2 [(0, .ref (ea E 84)), (1, .int x1), (2, .int x2)] [] σ 0 0 := by
    intro K2 HK2 n2
    induction n2 with
    | zero => intro x2 σ; exact j_none
    | succ n2 ih2 =>
      intro x2 σ
      show J E 3 p l e rm6_rankOf s m args below meth c (QI E below args s rm6_rankOf.cells rm6_rankOf.slots) (f6_rankOf_B2 N x1 K2 (f6_rankOf_L2 N x1 K2 n2) x2 σ) 2 [(0, .ref (ea E 84)), (1, .int x1), (2, .int x2)] [] σ 0 0
      unfold f6_rankOf_B2
      refine j_iload_n 2 C dX6_rankOf_2 rfl rfl ?_
      refine j_aload_n 0 C dX6_rankOf_3 rfl rfl ?_
      refine j_get 14 C fl6_54 (by decide) (ct_84 E _) rfl dX6_rankOf_4 ?_
      refine j_ige 28 C dX6_rankOf_7 (by decide) ?_ ?_
      · exact j_sub [] rfl (HK2 σ)
      · refine j_aload_n 0 C dX6_rankOf_10 rfl rfl ?_
        refine j_get 9 C fl6_39 (by decide) (ct_84 E _) rfl dX6_rankOf_11 ?_
        refine j_iload_n 2 C dX6_rankOf_14 rfl rfl ?_
        refine j_iald C (by decide) (ct_91 E _) dX6_rankOf_15 ?_
        refine j_iload_n 1 C dX6_rankOf_16 rfl rfl ?_
        refine j_ine 22 C dX6_rankOf_17 (by decide) ?_ ?_
        · refine j_iinc 2 1 [(2, .int (x2 + 1)), (0, .ref (ea E 84)), (1, .int x1)] C dX6_rankOf_22 rfl rfl (by decide) rfl ?_
          refine j_goto 2 C dX6_rankOf_25 (by decide) ?_
          exact j_sub [1, 2, 0] rfl (ih2 (x2 + 1) σ)
        · refine j_iload_n 2 C dX6_rankOf_20 rfl rfl ?_
          exact j_iret C hr hlocks rfl dX6_rankOf_21 (Nat.le_of_ble_eq_true rfl) (Nat.le_of_ble_eq_true rfl)
  unfold f6_rankOf
  refine j_iconst (v := 0) 0 C dX6_rankOf_0 (by decide) ?_
  refine j_istore_n [(2, .int 0), (0, .ref (ea E 84)), (1, .int x1)] C dX6_rankOf_1 rfl (by decide) rfl ?_
  refine j_sub [1, 2, 0] rfl (wL2 _ (fun σL2 => ?_) N 0 σ)
  refine j_iconst (v := (-1)) (-1) C dX6_rankOf_28 (by decide) ?_
  exact j_iret C hr hlocks rfl dX6_rankOf_29 (Nat.le_of_ble_eq_true rfl) (Nat.le_of_ble_eq_true rfl)
set_option maxHeartbeats 4000000 in
set_option maxRecDepth 100000 in
theorem con6_story (N : Nat) (x1 : Int32) (x2 : Int32) : ConI yX6_story cX6_story 3 .int rm6_story (fun E => [.ref (ea E 84), .int x1, .int x2]) (f6_story N x1 x2) := by
  refine conI_of (L := fun E => [(0, .ref (ea E 84)), (1, .int x1), (2, .int x2)]) (by decide) (fun _ => Nat.le_of_ble_eq_true rfl) (fun _ => rfl) ?_
  intro l E σ p e s m args below meth c C hr hlocks
  unfold f6_story
  refine j_aload_n 0 C dX6_story_0 rfl rfl ?_
  refine j_callVV [] (con6_asks N) C mi6_asks mv6_asks lk6_198 (by decide) (ct_84 E _) rfl rfl rfl ⟨Nat.le_of_ble_eq_true rfl, Nat.le_of_ble_eq_true rfl, Nat.le_of_ble_eq_true rfl, Nat.le_of_ble_eq_true rfl, Nat.le_of_ble_eq_true rfl⟩ dX6_story_1 (fun σ1 => ?_)
  refine j_aload_n 0 C dX6_story_4 rfl rfl ?_
  refine j_iload_n 1 C dX6_story_5 rfl rfl ?_
  refine j_callVI [.int x1] (con6_isStory N x1) C mi6_isStory mv6_isStory lk6_111 (by decide) (ct_84 E _) rfl rfl rfl ⟨Nat.le_of_ble_eq_true rfl, Nat.le_of_ble_eq_true rfl, Nat.le_of_ble_eq_true rfl, Nat.le_of_ble_eq_true rfl, Nat.le_of_ble_eq_true rfl⟩ dX6_story_6 (fun r6 σ6 => ?_)
  refine j_zne 18 C dX6_story_9 (by decide) ?_ ?_
  · refine j_iload_n 2 C dX6_story_18 rfl rfl ?_
    refine j_iconst (v := 0) 0 C dX6_story_19 (by decide) ?_
    refine j_bipush (v := 12) 12 C dX6_story_20 (by decide) ?_
    refine j_callSI [.int x2, .int 0, .int 12] (con6_in N x2 0 12) C mi6_in ms6_in lk6_88 rfl rfl ⟨Nat.le_of_ble_eq_true rfl, Nat.le_of_ble_eq_true rfl, Nat.le_of_ble_eq_true rfl, Nat.le_of_ble_eq_true rfl, Nat.le_of_ble_eq_true rfl⟩ dX6_story_22 (fun r22 σ22 => ?_)
    refine j_zne 34 C dX6_story_25 (by decide) ?_ ?_
    · refine j_iload_n 2 C dX6_story_34 rfl rfl ?_
      refine j_bipush (v := 8) 8 C dX6_story_35 (by decide) ?_
      refine j_ige 49 C dX6_story_37 (by decide) ?_ ?_
      · refine j_iload_n 2 C dX6_story_49 rfl rfl ?_
        refine j_ite (fun q50_0 => ?_) (fun q50_0 => ?_)
        · refine j_tin 80 C dX6_story_50 q50_0 (by decide) (by decide) rfl (by decide) ?_
          refine j_aload_n 0 C dX6_story_80 rfl rfl ?_
          refine j_iload_n 1 C dX6_story_81 rfl rfl ?_
          refine j_callVI [.int x1] (con6_rankOf N x1) C mi6_rankOf mv6_rankOf lk6_201 (by decide) (ct_84 E _) rfl rfl rfl ⟨Nat.le_of_ble_eq_true rfl, Nat.le_of_ble_eq_true rfl, Nat.le_of_ble_eq_true rfl, Nat.le_of_ble_eq_true rfl, Nat.le_of_ble_eq_true rfl⟩ dX6_story_82 (fun r82 σ82 => ?_)
          exact j_iret C hr hlocks rfl dX6_story_85 (Nat.le_of_ble_eq_true rfl) (Nat.le_of_ble_eq_true rfl)
        refine j_ite (fun q50_1 => ?_) (fun q50_1 => ?_)
        · refine j_tin 86 C dX6_story_50 q50_1 (by decide) (by decide) rfl (by decide) ?_
          refine j_aload_n 0 C dX6_story_86 rfl rfl ?_
          refine j_get 10 C fl6_42 (by decide) (ct_84 E _) rfl dX6_story_87 ?_
          refine j_iload_n 1 C dX6_story_90 rfl rfl ?_
          refine j_iald C (by decide) (ct_92 E _) dX6_story_91 ?_
          exact j_iret C hr hlocks rfl dX6_story_92 (Nat.le_of_ble_eq_true rfl) (Nat.le_of_ble_eq_true rfl)
        refine j_ite (fun q50_2 => ?_) (fun q50_2 => ?_)
        · refine j_tin 93 C dX6_story_50 q50_2 (by decide) (by decide) rfl (by decide) ?_
          refine j_aload_n 0 C dX6_story_93 rfl rfl ?_
          refine j_get 11 C fl6_45 (by decide) (ct_84 E _) rfl dX6_story_94 ?_
          refine j_iload_n 1 C dX6_story_97 rfl rfl ?_
          refine j_iald C (by decide) (ct_93 E _) dX6_story_98 ?_
          exact j_iret C hr hlocks rfl dX6_story_99 (Nat.le_of_ble_eq_true rfl) (Nat.le_of_ble_eq_true rfl)
        refine j_ite (fun q50_3 => ?_) (fun q50_3 => ?_)
        · refine j_tin 100 C dX6_story_50 q50_3 (by decide) (by decide) rfl (by decide) ?_
          refine j_aload_n 0 C dX6_story_100 rfl rfl ?_
          refine j_iload_n 1 C dX6_story_101 rfl rfl ?_
          refine j_callVI [.int x1] (con6_linesOn N x1) C mi6_linesOn mv6_linesOn lk6_204 (by decide) (ct_84 E _) rfl rfl rfl ⟨Nat.le_of_ble_eq_true rfl, Nat.le_of_ble_eq_true rfl, Nat.le_of_ble_eq_true rfl, Nat.le_of_ble_eq_true rfl, Nat.le_of_ble_eq_true rfl⟩ dX6_story_102 (fun r102 σ102 => ?_)
          exact j_iret C hr hlocks rfl dX6_story_105 (Nat.le_of_ble_eq_true rfl) (Nat.le_of_ble_eq_true rfl)
        refine j_tout 106 C dX6_story_50 (by have h0 := lv_neT q50_0 (a := 8) (by decide); have h1 := lv_neT q50_1 (a := 9) (by decide); have h2 := lv_neT q50_2 (a := 10) (by decide); have h3 := lv_neT q50_3 (a := 11) (by decide); omega) (by decide) ?_
        refine j_aload_n 0 C dX6_story_106 rfl rfl ?_
        refine j_iload_n 1 C dX6_story_107 rfl rfl ?_
        refine j_iconst (v := 4) 4 C dX6_story_108 (by decide) ?_
        refine j_callVI [.int x1, .int 4] (con6_of N x1 4) C mi6_of mv6_of lk6_92 (by decide) (ct_84 E _) rfl rfl rfl ⟨Nat.le_of_ble_eq_true rfl, Nat.le_of_ble_eq_true rfl, Nat.le_of_ble_eq_true rfl, Nat.le_of_ble_eq_true rfl, Nat.le_of_ble_eq_true rfl⟩ dX6_story_109 (fun r109 σ109 => ?_)
        refine j_aload_n 0 C dX6_story_112 rfl rfl ?_
        refine j_iload_n 1 C dX6_story_113 rfl rfl ?_
        refine j_callVI [.int x1] (con6_linesOn N x1) C mi6_linesOn mv6_linesOn lk6_204 (by decide) (ct_84 E _) rfl rfl rfl ⟨Nat.le_of_ble_eq_true rfl, Nat.le_of_ble_eq_true rfl, Nat.le_of_ble_eq_true rfl, Nat.le_of_ble_eq_true rfl, Nat.le_of_ble_eq_true rfl⟩ dX6_story_114 (fun r114 σ114 => ?_)
        refine j_isub C dX6_story_117 ?_
        exact j_iret C hr hlocks rfl dX6_story_118 (Nat.le_of_ble_eq_true rfl) (Nat.le_of_ble_eq_true rfl)
      · refine j_aload_n 0 C dX6_story_40 rfl rfl ?_
        refine j_iload_n 1 C dX6_story_41 rfl rfl ?_
        refine j_iconst (v := 1) 1 C dX6_story_42 (by decide) ?_
        refine j_iload_n 2 C dX6_story_43 rfl rfl ?_
        refine j_iadd C dX6_story_44 ?_
        refine j_callVI [.int x1, .int (1 + x2)] (con6_of N x1 (1 + x2)) C mi6_of mv6_of lk6_92 (by decide) (ct_84 E _) rfl rfl rfl ⟨Nat.le_of_ble_eq_true rfl, Nat.le_of_ble_eq_true rfl, Nat.le_of_ble_eq_true rfl, Nat.le_of_ble_eq_true rfl, Nat.le_of_ble_eq_true rfl⟩ dX6_story_45 (fun r45 σ45 => ?_)
        exact j_iret C hr hlocks rfl dX6_story_48 (Nat.le_of_ble_eq_true rfl) (Nat.le_of_ble_eq_true rfl)
    · refine j_aload_n 0 C dX6_story_28 rfl rfl ?_
      refine j_iconst (v := 2) 2 C dX6_story_29 (by decide) ?_
      refine j_callVI [.int 2] (con6_fails N 2) C mi6_fails mv6_fails lk6_99 (by decide) (ct_84 E _) rfl rfl rfl ⟨Nat.le_of_ble_eq_true rfl, Nat.le_of_ble_eq_true rfl, Nat.le_of_ble_eq_true rfl, Nat.le_of_ble_eq_true rfl, Nat.le_of_ble_eq_true rfl⟩ dX6_story_30 (fun r30 σ30 => ?_)
      exact j_iret C hr hlocks rfl dX6_story_33 (Nat.le_of_ble_eq_true rfl) (Nat.le_of_ble_eq_true rfl)
  · refine j_aload_n 0 C dX6_story_12 rfl rfl ?_
    refine j_iconst (v := 1) 1 C dX6_story_13 (by decide) ?_
    refine j_callVI [.int 1] (con6_fails N 1) C mi6_fails mv6_fails lk6_99 (by decide) (ct_84 E _) rfl rfl rfl ⟨Nat.le_of_ble_eq_true rfl, Nat.le_of_ble_eq_true rfl, Nat.le_of_ble_eq_true rfl, Nat.le_of_ble_eq_true rfl, Nat.le_of_ble_eq_true rfl⟩ dX6_story_14 (fun r14 σ14 => ?_)
    exact j_iret C hr hlocks rfl dX6_story_17 (Nat.le_of_ble_eq_true rfl) (Nat.le_of_ble_eq_true rfl)
set_option maxHeartbeats 4000000 in
set_option maxRecDepth 100000 in
theorem con6_advertisement (N : Nat) (x1 : Int32) (x2 : Int32) : ConI yX6_advertisement cX6_advertisement 3 .int rm6_advertisement (fun E => [.ref (ea E 84), .int x1, .int x2]) (f6_advertisement N x1 x2) := by
  refine conI_of (L := fun E => [(0, .ref (ea E 84)), (1, .int x1), (2, .int x2)]) (by decide) (fun _ => Nat.le_of_ble_eq_true rfl) (fun _ => rfl) ?_
  intro l E σ p e s m args below meth c C hr hlocks
  unfold f6_advertisement
  refine j_aload_n 0 C dX6_advertisement_0 rfl rfl ?_
  refine j_iconst (v := 0) 0 C dX6_advertisement_1 (by decide) ?_
  refine j_put 0 C fl6_3 rfl rfl rfl (by decide) (ct_84 E _) (Nat.le_of_ble_eq_true rfl) (ct_84 E _) dX6_advertisement_2 ?_
  refine j_aload_n 0 C dX6_advertisement_5 rfl rfl ?_
  refine j_iload_n 1 C dX6_advertisement_6 rfl rfl ?_
  refine j_callVI [.int x1] (con6_isAd N x1) C mi6_isAd mv6_isAd lk6_141 (by decide) (ct_84 E _) rfl rfl rfl ⟨Nat.le_of_ble_eq_true rfl, Nat.le_of_ble_eq_true rfl, Nat.le_of_ble_eq_true rfl, Nat.le_of_ble_eq_true rfl, Nat.le_of_ble_eq_true rfl⟩ dX6_advertisement_7 (fun r7 σ7 => ?_)
  refine j_zne 19 C dX6_advertisement_10 (by decide) ?_ ?_
  · refine j_iload_n 2 C dX6_advertisement_19 rfl rfl ?_
    refine j_iconst (v := 0) 0 C dX6_advertisement_20 (by decide) ?_
    refine j_bipush (v := 6) 6 C dX6_advertisement_21 (by decide) ?_
    refine j_callSI [.int x2, .int 0, .int 6] (con6_in N x2 0 6) C mi6_in ms6_in lk6_88 rfl rfl ⟨Nat.le_of_ble_eq_true rfl, Nat.le_of_ble_eq_true rfl, Nat.le_of_ble_eq_true rfl, Nat.le_of_ble_eq_true rfl, Nat.le_of_ble_eq_true rfl⟩ dX6_advertisement_23 (fun r23 σ23 => ?_)
    refine j_zne 35 C dX6_advertisement_26 (by decide) ?_ ?_
    · refine j_iload_n 2 C dX6_advertisement_35 rfl rfl ?_
      refine j_bipush (v := 6) 6 C dX6_advertisement_36 (by decide) ?_
      refine j_ige 52 C dX6_advertisement_38 (by decide) ?_ ?_
      · refine j_aload_n 0 C dX6_advertisement_52 rfl rfl ?_
        refine j_iload_n 1 C dX6_advertisement_53 rfl rfl ?_
        refine j_bipush (v := 6) 6 C dX6_advertisement_54 (by decide) ?_
        refine j_callVI [.int x1, .int 6] (con6_ad N x1 6) C mi6_ad mv6_ad lk6_96 (by decide) (ct_84 E _) rfl rfl rfl ⟨Nat.le_of_ble_eq_true rfl, Nat.le_of_ble_eq_true rfl, Nat.le_of_ble_eq_true rfl, Nat.le_of_ble_eq_true rfl, Nat.le_of_ble_eq_true rfl⟩ dX6_advertisement_56 (fun r56 σ56 => ?_)
        refine j_aload_n 0 C dX6_advertisement_59 rfl rfl ?_
        refine j_iload_n 1 C dX6_advertisement_60 rfl rfl ?_
        refine j_iconst (v := 4) 4 C dX6_advertisement_61 (by decide) ?_
        refine j_callVI [.int x1, .int 4] (con6_ad N x1 4) C mi6_ad mv6_ad lk6_96 (by decide) (ct_84 E _) rfl rfl rfl ⟨Nat.le_of_ble_eq_true rfl, Nat.le_of_ble_eq_true rfl, Nat.le_of_ble_eq_true rfl, Nat.le_of_ble_eq_true rfl, Nat.le_of_ble_eq_true rfl⟩ dX6_advertisement_62 (fun r62 σ62 => ?_)
        refine j_imul C dX6_advertisement_65 ?_
        refine j_aload_n 0 C dX6_advertisement_66 rfl rfl ?_
        refine j_iload_n 1 C dX6_advertisement_67 rfl rfl ?_
        refine j_iconst (v := 5) 5 C dX6_advertisement_68 (by decide) ?_
        refine j_callVI [.int x1, .int 5] (con6_ad N x1 5) C mi6_ad mv6_ad lk6_96 (by decide) (ct_84 E _) rfl rfl rfl ⟨Nat.le_of_ble_eq_true rfl, Nat.le_of_ble_eq_true rfl, Nat.le_of_ble_eq_true rfl, Nat.le_of_ble_eq_true rfl, Nat.le_of_ble_eq_true rfl⟩ dX6_advertisement_69 (fun r69 σ69 => ?_)
        refine j_imul C dX6_advertisement_72 ?_
        exact j_iret C hr hlocks rfl dX6_advertisement_73 (Nat.le_of_ble_eq_true rfl) (Nat.le_of_ble_eq_true rfl)
      · refine j_aload_n 0 C dX6_advertisement_41 rfl rfl ?_
        refine j_iload_n 1 C dX6_advertisement_42 rfl rfl ?_
        refine j_iconst (v := 1) 1 C dX6_advertisement_43 (by decide) ?_
        refine j_iload_n 2 C dX6_advertisement_44 rfl rfl ?_
        refine j_iadd C dX6_advertisement_45 ?_
        refine j_callVI [.int x1, .int (1 + x2)] (con6_ad N x1 (1 + x2)) C mi6_ad mv6_ad lk6_96 (by decide) (ct_84 E _) rfl rfl rfl ⟨Nat.le_of_ble_eq_true rfl, Nat.le_of_ble_eq_true rfl, Nat.le_of_ble_eq_true rfl, Nat.le_of_ble_eq_true rfl, Nat.le_of_ble_eq_true rfl⟩ dX6_advertisement_46 (fun r46 σ46 => ?_)
        refine j_goto 73 C dX6_advertisement_49 (by decide) ?_
        exact j_iret C hr hlocks rfl dX6_advertisement_73 (Nat.le_of_ble_eq_true rfl) (Nat.le_of_ble_eq_true rfl)
    · refine j_aload_n 0 C dX6_advertisement_29 rfl rfl ?_
      refine j_iconst (v := 2) 2 C dX6_advertisement_30 (by decide) ?_
      refine j_callVI [.int 2] (con6_fails N 2) C mi6_fails mv6_fails lk6_99 (by decide) (ct_84 E _) rfl rfl rfl ⟨Nat.le_of_ble_eq_true rfl, Nat.le_of_ble_eq_true rfl, Nat.le_of_ble_eq_true rfl, Nat.le_of_ble_eq_true rfl, Nat.le_of_ble_eq_true rfl⟩ dX6_advertisement_31 (fun r31 σ31 => ?_)
      exact j_iret C hr hlocks rfl dX6_advertisement_34 (Nat.le_of_ble_eq_true rfl) (Nat.le_of_ble_eq_true rfl)
  · refine j_aload_n 0 C dX6_advertisement_13 rfl rfl ?_
    refine j_iconst (v := 1) 1 C dX6_advertisement_14 (by decide) ?_
    refine j_callVI [.int 1] (con6_fails N 1) C mi6_fails mv6_fails lk6_99 (by decide) (ct_84 E _) rfl rfl rfl ⟨Nat.le_of_ble_eq_true rfl, Nat.le_of_ble_eq_true rfl, Nat.le_of_ble_eq_true rfl, Nat.le_of_ble_eq_true rfl, Nat.le_of_ble_eq_true rfl⟩ dX6_advertisement_15 (fun r15 σ15 => ?_)
    exact j_iret C hr hlocks rfl dX6_advertisement_18 (Nat.le_of_ble_eq_true rfl) (Nat.le_of_ble_eq_true rfl)
set_option maxHeartbeats 4000000 in
set_option maxRecDepth 100000 in
theorem con6_isCell (N : Nat) (x0 : Int32) (x1 : Int32) (x2 : Int32) : ConI yX6_isCell cX6_isCell 3 .boolean rm6_isCell (fun E => [.int x0, .int x1, .int x2]) (f6_isCell N x0 x1 x2) := by
  refine conI_of (L := fun E => [(0, .int x0), (1, .int x1), (2, .int x2)]) (by decide) (fun _ => Nat.le_of_ble_eq_true rfl) (fun _ => rfl) ?_
  intro l E σ p e s m args below meth c C hr hlocks
  unfold f6_isCell
  refine j_iload_n 0 C dX6_isCell_0 rfl rfl ?_
  refine j_iconst (v := 0) 0 C dX6_isCell_1 (by decide) ?_
  refine j_iconst (v := 3) 3 C dX6_isCell_2 (by decide) ?_
  refine j_callSI [.int x0, .int 0, .int 3] (con6_in N x0 0 3) C mi6_in ms6_in lk6_88 rfl rfl ⟨Nat.le_of_ble_eq_true rfl, Nat.le_of_ble_eq_true rfl, Nat.le_of_ble_eq_true rfl, Nat.le_of_ble_eq_true rfl, Nat.le_of_ble_eq_true rfl⟩ dX6_isCell_3 (fun r3 σ3 => ?_)
  refine j_zeq 32 C dX6_isCell_6 (by decide) ?_ ?_
  · refine j_iconst (v := 0) 0 C dX6_isCell_32 (by decide) ?_
    exact j_iret C hr hlocks rfl dX6_isCell_33 (Nat.le_of_ble_eq_true rfl) (Nat.le_of_ble_eq_true rfl)
  · refine j_iload_n 1 C dX6_isCell_9 rfl rfl ?_
    refine j_iconst (v := 0) 0 C dX6_isCell_10 (by decide) ?_
    refine j_iconst (v := 4) 4 C dX6_isCell_11 (by decide) ?_
    refine j_callSI [.int x1, .int 0, .int 4] (con6_in N x1 0 4) C mi6_in ms6_in lk6_88 rfl rfl ⟨Nat.le_of_ble_eq_true rfl, Nat.le_of_ble_eq_true rfl, Nat.le_of_ble_eq_true rfl, Nat.le_of_ble_eq_true rfl, Nat.le_of_ble_eq_true rfl⟩ dX6_isCell_12 (fun r12 σ12 => ?_)
    refine j_zeq 32 C dX6_isCell_15 (by decide) ?_ ?_
    · refine j_iconst (v := 0) 0 C dX6_isCell_32 (by decide) ?_
      exact j_iret C hr hlocks rfl dX6_isCell_33 (Nat.le_of_ble_eq_true rfl) (Nat.le_of_ble_eq_true rfl)
    · refine j_iload_n 2 C dX6_isCell_18 rfl rfl ?_
      refine j_iconst (v := 0) 0 C dX6_isCell_19 (by decide) ?_
      refine j_bipush (v := 23) 23 C dX6_isCell_20 (by decide) ?_
      refine j_callSI [.int x2, .int 0, .int 23] (con6_in N x2 0 23) C mi6_in ms6_in lk6_88 rfl rfl ⟨Nat.le_of_ble_eq_true rfl, Nat.le_of_ble_eq_true rfl, Nat.le_of_ble_eq_true rfl, Nat.le_of_ble_eq_true rfl, Nat.le_of_ble_eq_true rfl⟩ dX6_isCell_22 (fun r22 σ22 => ?_)
      refine j_zeq 32 C dX6_isCell_25 (by decide) ?_ ?_
      · refine j_iconst (v := 0) 0 C dX6_isCell_32 (by decide) ?_
        exact j_iret C hr hlocks rfl dX6_isCell_33 (Nat.le_of_ble_eq_true rfl) (Nat.le_of_ble_eq_true rfl)
      · refine j_iconst (v := 1) 1 C dX6_isCell_28 (by decide) ?_
        refine j_goto 33 C dX6_isCell_29 (by decide) ?_
        exact j_iret C hr hlocks rfl dX6_isCell_33 (Nat.le_of_ble_eq_true rfl) (Nat.le_of_ble_eq_true rfl)
set_option maxHeartbeats 4000000 in
set_option maxRecDepth 100000 in
theorem con6_cell (N : Nat) (x1 : Int32) (x2 : Int32) (x3 : Int32) : ConI yX6_cell cX6_cell 4 .int rm6_cell (fun E => [.ref (ea E 84), .int x1, .int x2, .int x3]) (f6_cell N x1 x2 x3) := by
  refine conI_of (L := fun E => [(0, .ref (ea E 84)), (1, .int x1), (2, .int x2), (3, .int x3)]) (by decide) (fun _ => Nat.le_of_ble_eq_true rfl) (fun _ => rfl) ?_
  intro l E σ p e s m args below meth c C hr hlocks
  unfold f6_cell
  refine j_aload_n 0 C dX6_cell_0 rfl rfl ?_
  refine j_callVV [] (con6_asks N) C mi6_asks mv6_asks lk6_198 (by decide) (ct_84 E _) rfl rfl rfl ⟨Nat.le_of_ble_eq_true rfl, Nat.le_of_ble_eq_true rfl, Nat.le_of_ble_eq_true rfl, Nat.le_of_ble_eq_true rfl, Nat.le_of_ble_eq_true rfl⟩ dX6_cell_1 (fun σ1 => ?_)
  refine j_iload_n 1 C dX6_cell_4 rfl rfl ?_
  refine j_iload_n 2 C dX6_cell_5 rfl rfl ?_
  refine j_iload_n 3 C dX6_cell_6 rfl rfl ?_
  refine j_callSI [.int x1, .int x2, .int x3] (con6_isCell N x1 x2 x3) C mi6_isCell ms6_isCell lk6_207 rfl rfl ⟨Nat.le_of_ble_eq_true rfl, Nat.le_of_ble_eq_true rfl, Nat.le_of_ble_eq_true rfl, Nat.le_of_ble_eq_true rfl, Nat.le_of_ble_eq_true rfl⟩ dX6_cell_7 (fun r7 σ7 => ?_)
  refine j_zeq 27 C dX6_cell_10 (by decide) ?_ ?_
  · refine j_aload_n 0 C dX6_cell_27 rfl rfl ?_
    refine j_iconst (v := 1) 1 C dX6_cell_28 (by decide) ?_
    refine j_callVI [.int 1] (con6_fails N 1) C mi6_fails mv6_fails lk6_99 (by decide) (ct_84 E _) rfl rfl rfl ⟨Nat.le_of_ble_eq_true rfl, Nat.le_of_ble_eq_true rfl, Nat.le_of_ble_eq_true rfl, Nat.le_of_ble_eq_true rfl, Nat.le_of_ble_eq_true rfl⟩ dX6_cell_29 (fun r29 σ29 => ?_)
    exact j_iret C hr hlocks rfl dX6_cell_32 (Nat.le_of_ble_eq_true rfl) (Nat.le_of_ble_eq_true rfl)
  · refine j_aload_n 0 C dX6_cell_13 rfl rfl ?_
    refine j_get 7 C fl6_33 (by decide) (ct_84 E _) rfl dX6_cell_14 ?_
    refine j_iload_n 1 C dX6_cell_17 rfl rfl ?_
    refine j_iload_n 2 C dX6_cell_18 rfl rfl ?_
    refine j_iload_n 3 C dX6_cell_19 rfl rfl ?_
    refine j_callSI [.int x1, .int x2, .int x3] (con6_at N x1 x2 x3) C mi6_at ms6_at lk6_151 rfl rfl ⟨Nat.le_of_ble_eq_true rfl, Nat.le_of_ble_eq_true rfl, Nat.le_of_ble_eq_true rfl, Nat.le_of_ble_eq_true rfl, Nat.le_of_ble_eq_true rfl⟩ dX6_cell_20 (fun r20 σ20 => ?_)
    refine j_iald C (by decide) (ct_89 E _) dX6_cell_23 ?_
    refine j_goto 32 C dX6_cell_24 (by decide) ?_
    exact j_iret C hr hlocks rfl dX6_cell_32 (Nat.le_of_ble_eq_true rfl) (Nat.le_of_ble_eq_true rfl)
set_option maxHeartbeats 4000000 in
set_option maxRecDepth 100000 in
theorem con6_owner (N : Nat) (x1 : Int32) (x2 : Int32) (x3 : Int32) : ConI yX6_owner cX6_owner 5 .int rm6_owner (fun E => [.ref (ea E 84), .int x1, .int x2, .int x3]) (f6_owner N x1 x2 x3) := by
  refine conI_of (L := fun E => [(0, .ref (ea E 84)), (1, .int x1), (2, .int x2), (3, .int x3)]) (by decide) (fun _ => Nat.le_of_ble_eq_true rfl) (fun _ => rfl) ?_
  intro l E σ p e s m args below meth c C hr hlocks
  unfold f6_owner
  refine j_aload_n 0 C dX6_owner_0 rfl rfl ?_
  refine j_callVV [] (con6_asks N) C mi6_asks mv6_asks lk6_198 (by decide) (ct_84 E _) rfl rfl rfl ⟨Nat.le_of_ble_eq_true rfl, Nat.le_of_ble_eq_true rfl, Nat.le_of_ble_eq_true rfl, Nat.le_of_ble_eq_true rfl, Nat.le_of_ble_eq_true rfl⟩ dX6_owner_1 (fun σ1 => ?_)
  refine j_iload_n 1 C dX6_owner_4 rfl rfl ?_
  refine j_iload_n 2 C dX6_owner_5 rfl rfl ?_
  refine j_iload_n 3 C dX6_owner_6 rfl rfl ?_
  refine j_callSI [.int x1, .int x2, .int x3] (con6_isCell N x1 x2 x3) C mi6_isCell ms6_isCell lk6_207 rfl rfl ⟨Nat.le_of_ble_eq_true rfl, Nat.le_of_ble_eq_true rfl, Nat.le_of_ble_eq_true rfl, Nat.le_of_ble_eq_true rfl, Nat.le_of_ble_eq_true rfl⟩ dX6_owner_7 (fun r7 σ7 => ?_)
  refine j_zne 19 C dX6_owner_10 (by decide) ?_ ?_
  · refine j_aload_n 0 C dX6_owner_19 rfl rfl ?_
    refine j_get 8 C fl6_36 (by decide) (ct_84 E _) rfl dX6_owner_20 ?_
    refine j_iload_n 1 C dX6_owner_23 rfl rfl ?_
    refine j_iload_n 2 C dX6_owner_24 rfl rfl ?_
    refine j_iload_n 3 C dX6_owner_25 rfl rfl ?_
    refine j_callSI [.int x1, .int x2, .int x3] (con6_at N x1 x2 x3) C mi6_at ms6_at lk6_151 rfl rfl ⟨Nat.le_of_ble_eq_true rfl, Nat.le_of_ble_eq_true rfl, Nat.le_of_ble_eq_true rfl, Nat.le_of_ble_eq_true rfl, Nat.le_of_ble_eq_true rfl⟩ dX6_owner_26 (fun r26 σ26 => ?_)
    refine j_iald C (by decide) (ct_90 E _) dX6_owner_29 ?_
    refine j_istore [(4, .int (σ26 90 r26.toNatClampNeg)), (0, .ref (ea E 84)), (1, .int x1), (2, .int x2), (3, .int x3)] C dX6_owner_30 (by decide) rfl ?_
    refine j_iload 0 C dX6_owner_32 rfl ?_
    refine j_zge 45 C dX6_owner_34 (by decide) ?_ ?_
    · refine j_iload 0 C dX6_owner_45 rfl ?_
      exact j_iret C hr hlocks rfl dX6_owner_47 (Nat.le_of_ble_eq_true rfl) (Nat.le_of_ble_eq_true rfl)
    · refine j_aload_n 1 C dX6_owner_37 rfl rfl ?_
      refine j_iconst (v := 2) 2 C dX6_owner_38 (by decide) ?_
      refine j_callVI [.int 2] (con6_fails N 2) C mi6_fails mv6_fails lk6_99 (by decide) (ct_84 E _) rfl rfl rfl ⟨Nat.le_of_ble_eq_true rfl, Nat.le_of_ble_eq_true rfl, Nat.le_of_ble_eq_true rfl, Nat.le_of_ble_eq_true rfl, Nat.le_of_ble_eq_true rfl⟩ dX6_owner_39 (fun r39 σ39 => ?_)
      refine j_goto 47 C dX6_owner_42 (by decide) ?_
      exact j_iret C hr hlocks rfl dX6_owner_47 (Nat.le_of_ble_eq_true rfl) (Nat.le_of_ble_eq_true rfl)
  · refine j_aload_n 0 C dX6_owner_13 rfl rfl ?_
    refine j_iconst (v := 1) 1 C dX6_owner_14 (by decide) ?_
    refine j_callVI [.int 1] (con6_fails N 1) C mi6_fails mv6_fails lk6_99 (by decide) (ct_84 E _) rfl rfl rfl ⟨Nat.le_of_ble_eq_true rfl, Nat.le_of_ble_eq_true rfl, Nat.le_of_ble_eq_true rfl, Nat.le_of_ble_eq_true rfl, Nat.le_of_ble_eq_true rfl⟩ dX6_owner_15 (fun r15 σ15 => ?_)
    exact j_iret C hr hlocks rfl dX6_owner_18 (Nat.le_of_ble_eq_true rfl) (Nat.le_of_ble_eq_true rfl)
set_option maxHeartbeats 4000000 in
set_option maxRecDepth 100000 in
theorem con6_part (N : Nat) (x1 : Int32) (x2 : Int32) (x3 : Int32) : ConI yX6_part cX6_part 4 .int rm6_part (fun E => [.ref (ea E 84), .int x1, .int x2, .int x3]) (f6_part N x1 x2 x3) := by
  refine conI_of (L := fun E => [(0, .ref (ea E 84)), (1, .int x1), (2, .int x2), (3, .int x3)]) (by decide) (fun _ => Nat.le_of_ble_eq_true rfl) (fun _ => rfl) ?_
  intro l E σ p e s m args below meth c C hr hlocks
  have wJ28 : ∀ (σ : Hp), J E 4 p l e rm6_part s m args below meth c (QI E below args s rm6_part.cells rm6_part.slots) (f6_part_J28 N x1 x2 x3 σ) 28 [(0, .ref (ea E 84))] [] σ 0 0 := by
    intro σ
    unfold f6_part_J28
    refine j_aload_n 0 C dX6_part_28 rfl rfl ?_
    refine j_iconst (v := 1) 1 C dX6_part_29 (by decide) ?_
    refine j_callVI [.int 1] (con6_fails N 1) C mi6_fails mv6_fails lk6_99 (by decide) (ct_84 E _) rfl rfl rfl ⟨Nat.le_of_ble_eq_true rfl, Nat.le_of_ble_eq_true rfl, Nat.le_of_ble_eq_true rfl, Nat.le_of_ble_eq_true rfl, Nat.le_of_ble_eq_true rfl⟩ dX6_part_30 (fun r30 σ30 => ?_)
    exact j_iret C hr hlocks rfl dX6_part_33 (Nat.le_of_ble_eq_true rfl) (Nat.le_of_ble_eq_true rfl)
  unfold f6_part
  refine j_aload_n 0 C dX6_part_0 rfl rfl ?_
  refine j_callVV [] (con6_asks N) C mi6_asks mv6_asks lk6_198 (by decide) (ct_84 E _) rfl rfl rfl ⟨Nat.le_of_ble_eq_true rfl, Nat.le_of_ble_eq_true rfl, Nat.le_of_ble_eq_true rfl, Nat.le_of_ble_eq_true rfl, Nat.le_of_ble_eq_true rfl⟩ dX6_part_1 (fun σ1 => ?_)
  refine j_aload_n 0 C dX6_part_4 rfl rfl ?_
  refine j_iload_n 1 C dX6_part_5 rfl rfl ?_
  refine j_callVI [.int x1] (con6_isStory N x1) C mi6_isStory mv6_isStory lk6_111 (by decide) (ct_84 E _) rfl rfl rfl ⟨Nat.le_of_ble_eq_true rfl, Nat.le_of_ble_eq_true rfl, Nat.le_of_ble_eq_true rfl, Nat.le_of_ble_eq_true rfl, Nat.le_of_ble_eq_true rfl⟩ dX6_part_6 (fun r6 σ6 => ?_)
  refine j_zeq 28 C dX6_part_9 (by decide) ?_ ?_
  · exact j_sub [0] rfl (wJ28 σ6)
  · refine j_iload_n 2 C dX6_part_12 rfl rfl ?_
    refine j_iconst (v := 0) 0 C dX6_part_13 (by decide) ?_
    refine j_aload_n 0 C dX6_part_14 rfl rfl ?_
    refine j_get 11 C fl6_45 (by decide) (ct_84 E _) rfl dX6_part_15 ?_
    refine j_iload_n 1 C dX6_part_18 rfl rfl ?_
    refine j_iald C (by decide) (ct_93 E _) dX6_part_19 ?_
    refine j_iconst (v := 1) 1 C dX6_part_20 (by decide) ?_
    refine j_isub C dX6_part_21 ?_
    refine j_callSI [.int x2, .int 0, .int ((σ6 93 x1.toNatClampNeg) - 1)] (con6_in N x2 0 ((σ6 93 x1.toNatClampNeg) - 1)) C mi6_in ms6_in lk6_88 rfl rfl ⟨Nat.le_of_ble_eq_true rfl, Nat.le_of_ble_eq_true rfl, Nat.le_of_ble_eq_true rfl, Nat.le_of_ble_eq_true rfl, Nat.le_of_ble_eq_true rfl⟩ dX6_part_22 (fun r22 σ22 => ?_)
    refine j_zne 34 C dX6_part_25 (by decide) ?_ ?_
    · refine j_iload_n 3 C dX6_part_34 rfl rfl ?_
      refine j_iconst (v := 0) 0 C dX6_part_35 (by decide) ?_
      refine j_bipush (v := 7) 7 C dX6_part_36 (by decide) ?_
      refine j_callSI [.int x3, .int 0, .int 7] (con6_in N x3 0 7) C mi6_in ms6_in lk6_88 rfl rfl ⟨Nat.le_of_ble_eq_true rfl, Nat.le_of_ble_eq_true rfl, Nat.le_of_ble_eq_true rfl, Nat.le_of_ble_eq_true rfl, Nat.le_of_ble_eq_true rfl⟩ dX6_part_38 (fun r38 σ38 => ?_)
      refine j_zeq 62 C dX6_part_41 (by decide) ?_ ?_
      · refine j_aload_n 0 C dX6_part_62 rfl rfl ?_
        refine j_iconst (v := 2) 2 C dX6_part_63 (by decide) ?_
        refine j_callVI [.int 2] (con6_fails N 2) C mi6_fails mv6_fails lk6_99 (by decide) (ct_84 E _) rfl rfl rfl ⟨Nat.le_of_ble_eq_true rfl, Nat.le_of_ble_eq_true rfl, Nat.le_of_ble_eq_true rfl, Nat.le_of_ble_eq_true rfl, Nat.le_of_ble_eq_true rfl⟩ dX6_part_64 (fun r64 σ64 => ?_)
        exact j_iret C hr hlocks rfl dX6_part_67 (Nat.le_of_ble_eq_true rfl) (Nat.le_of_ble_eq_true rfl)
      · refine j_aload_n 0 C dX6_part_44 rfl rfl ?_
        refine j_get 12 C fl6_48 (by decide) (ct_84 E _) rfl dX6_part_45 ?_
        refine j_bipush (v := 8) 8 C dX6_part_48 (by decide) ?_
        refine j_iconst (v := 4) 4 C dX6_part_50 (by decide) ?_
        refine j_iload_n 1 C dX6_part_51 rfl rfl ?_
        refine j_imul C dX6_part_52 ?_
        refine j_iload_n 2 C dX6_part_53 rfl rfl ?_
        refine j_iadd C dX6_part_54 ?_
        refine j_imul C dX6_part_55 ?_
        refine j_iload_n 3 C dX6_part_56 rfl rfl ?_
        refine j_iadd C dX6_part_57 ?_
        refine j_iald C (by decide) (ct_94 E _) dX6_part_58 ?_
        refine j_goto 67 C dX6_part_59 (by decide) ?_
        exact j_iret C hr hlocks rfl dX6_part_67 (Nat.le_of_ble_eq_true rfl) (Nat.le_of_ble_eq_true rfl)
    · exact j_sub [0] rfl (wJ28 σ22)
set_option maxHeartbeats 4000000 in
set_option maxRecDepth 100000 in
theorem con6_locate (N : Nat) (x1 : Int32) (x2 : Int32) : ConI yX6_locate cX6_locate 9 .int rm6_locate (fun E => [.ref (ea E 84), .int x1, .int x2]) (f6_locate N x1 x2) := by
  refine conI_of (L := fun E => [(0, .ref (ea E 84)), (1, .int x1), (2, .int x2)]) (by decide) (fun _ => Nat.le_of_ble_eq_true rfl) (fun _ => rfl) ?_
  intro l E σ p e s m args below meth c C hr hlocks
  have wL170 : ∀ (x4 : Int32) (x6 : Int32) (K170 : Int32 → Int32 → Hp → Option (Int32 × Hp)), (∀ (x5 : Int32) (x7 : Int32) (σ : Hp), J E 9 p l e rm6_locate s m args below meth c (QI E below args s rm6_locate.cells rm6_locate.slots) (K170 x5 x7 σ) 241 [(0, .ref (ea E 84)), (4, .int x4), (5, .int x5), (6, .int x6), (7, .int x7)] [] σ 0 0) → ∀ (n170 : Nat) (x5 : Int32) (x7 : Int32) (x8 : Int32) (σ : Hp), J E 9 p l e rm6_locate s m args below meth c (QI E below args s rm6_locate.cells rm6_locate.slots) (f6_locate_L170 N x1 x2 x4 x6 K170 n170 x5 x7 x8 σ) 170 [(0, .ref (ea E 84)), (4, .int x4), (5, .int x5), (6, .int x6), (7, .int x7), (8, .int x8)] [] σ 0 0 := by
    intro x4 x6 K170 HK170 n170
    induction n170 with
    | zero => intro x5 x7 x8 σ; exact j_none
    | succ n170 ih170 =>
      have wJ235 : ∀ (x5 : Int32) (x7 : Int32) (y0 : Int32) (y1 : Int32) (σ : Hp), J E 9 p l e rm6_locate s m args below meth c (QI E below args s rm6_locate.cells rm6_locate.slots) (f6_locate_J235 N x1 x2 x4 x6 K170 (f6_locate_L170 N x1 x2 x4 x6 K170 n170) x5 x7 y0 y1 σ) 235 [(0, .ref (ea E 84)), (4, .int x4), (5, .int x5), (6, .int x6), (7, .int x7)] [.int y0, .int y1] σ 0 0 := by
        intro x5 x7 y0 y1 σ
        unfold f6_locate_J235
        refine j_iadd C dX6_locate_235 ?_
        refine j_istore [(8, .int (y1 + y0)), (0, .ref (ea E 84)), (4, .int x4), (5, .int x5), (6, .int x6), (7, .int x7)] C dX6_locate_236 (by decide) rfl ?_
        refine j_goto 170 C dX6_locate_238 (by decide) ?_
        exact j_sub [1, 2, 3, 4, 5, 0] rfl (ih170 x5 x7 (y1 + y0) σ)
      intro x5 x7 x8 σ
      show J E 9 p l e rm6_locate s m args below meth c (QI E below args s rm6_locate.cells rm6_locate.slots) (f6_locate_B170 N x1 x2 x4 x6 K170 (f6_locate_L170 N x1 x2 x4 x6 K170 n170) x5 x7 x8 σ) 170 [(0, .ref (ea E 84)), (4, .int x4), (5, .int x5), (6, .int x6), (7, .int x7), (8, .int x8)] [] σ 0 0
      unfold f6_locate_B170
      refine j_iload 2 C dX6_locate_170 rfl ?_
      refine j_iload 5 C dX6_locate_172 rfl ?_
      refine j_ilt 241 C dX6_locate_174 (by decide) ?_ ?_
      · exact j_sub [0, 1, 2, 3, 4] rfl (HK170 x5 x7 σ)
      · refine j_iload 2 C dX6_locate_177 rfl ?_
        refine j_iload 5 C dX6_locate_179 rfl ?_
        refine j_isub C dX6_locate_181 ?_
        refine j_istore [(5, .int (x5 - x8)), (0, .ref (ea E 84)), (4, .int x4), (6, .int x6), (7, .int x7), (8, .int x8)] C dX6_locate_182 (by decide) rfl ?_
        refine j_iinc 4 1 [(7, .int (x7 + 1)), (5, .int (x5 - x8)), (0, .ref (ea E 84)), (4, .int x4), (6, .int x6), (8, .int x8)] C dX6_locate_184 rfl rfl (by decide) rfl ?_
        refine j_aload_n 2 C dX6_locate_187 rfl rfl ?_
        refine j_get 12 C fl6_48 (by decide) (ct_84 E _) rfl dX6_locate_188 ?_
        refine j_iload 3 C dX6_locate_191 rfl ?_
        refine j_iconst (v := 5) 5 C dX6_locate_193 (by decide) ?_
        refine j_iadd C dX6_locate_194 ?_
        refine j_iald C (by decide) (ct_94 E _) dX6_locate_195 ?_
        refine j_aload_n 2 C dX6_locate_196 rfl rfl ?_
        refine j_get 12 C fl6_48 (by decide) (ct_84 E _) rfl dX6_locate_197 ?_
        refine j_iload 3 C dX6_locate_200 rfl ?_
        refine j_iconst (v := 3) 3 C dX6_locate_202 (by decide) ?_
        refine j_iadd C dX6_locate_203 ?_
        refine j_iald C (by decide) (ct_94 E _) dX6_locate_204 ?_
        refine j_idiv C dX6_locate_205 ?_
        refine j_iload 0 C dX6_locate_206 rfl ?_
        refine j_aload_n 2 C dX6_locate_208 rfl rfl ?_
        refine j_get 12 C fl6_48 (by decide) (ct_84 E _) rfl dX6_locate_209 ?_
        refine j_iload 3 C dX6_locate_212 rfl ?_
        refine j_iconst (v := 5) 5 C dX6_locate_214 (by decide) ?_
        refine j_iadd C dX6_locate_215 ?_
        refine j_iald C (by decide) (ct_94 E _) dX6_locate_216 ?_
        refine j_aload_n 2 C dX6_locate_217 rfl rfl ?_
        refine j_get 12 C fl6_48 (by decide) (ct_84 E _) rfl dX6_locate_218 ?_
        refine j_iload 3 C dX6_locate_221 rfl ?_
        refine j_iconst (v := 3) 3 C dX6_locate_223 (by decide) ?_
        refine j_iadd C dX6_locate_224 ?_
        refine j_iald C (by decide) (ct_94 E _) dX6_locate_225 ?_
        refine j_irem C dX6_locate_226 ?_
        refine j_ige 234 C dX6_locate_227 (by decide) ?_ ?_
        · refine j_iconst (v := 0) 0 C dX6_locate_234 (by decide) ?_
          exact j_sub [2, 3, 1, 4, 0] rfl (wJ235 (x5 - x8) (x7 + 1) 0 ((σ 94 (x4 + 5).toNatClampNeg) / (σ 94 (x4 + 3).toNatClampNeg)) σ)
        · refine j_iconst (v := 1) 1 C dX6_locate_230 (by decide) ?_
          refine j_goto 235 C dX6_locate_231 (by decide) ?_
          exact j_sub [2, 3, 1, 4, 0] rfl (wJ235 (x5 - x8) (x7 + 1) 1 ((σ 94 (x4 + 5).toNatClampNeg) / (σ 94 (x4 + 3).toNatClampNeg)) σ)
  have wJ167 : ∀ (x4 : Int32) (x5 : Int32) (x6 : Int32) (x7 : Int32) (y0 : Int32) (y1 : Int32) (σ : Hp), J E 9 p l e rm6_locate s m args below meth c (QI E below args s rm6_locate.cells rm6_locate.slots) (f6_locate_J167 N x1 x2 x4 x5 x6 x7 y0 y1 σ) 167 [(0, .ref (ea E 84)), (4, .int x4), (5, .int x5), (6, .int x6), (7, .int x7)] [.int y0, .int y1] σ 0 0 := by
    intro x4 x5 x6 x7 y0 y1 σ
    unfold f6_locate_J167
    refine j_iadd C dX6_locate_167 ?_
    refine j_istore [(8, .int (y1 + y0)), (0, .ref (ea E 84)), (4, .int x4), (5, .int x5), (6, .int x6), (7, .int x7)] C dX6_locate_168 (by decide) rfl ?_
    refine j_sub [1, 2, 3, 4, 5, 0] rfl (wL170 x4 x6 _ (fun x5_170 x7_170 σL170 => ?_) N x5 x7 (y1 + y0) σ)
    refine j_sipush (v := 1000) 1000 C dX6_locate_241 (by decide) ?_
    refine j_aload_n 0 C dX6_locate_244 rfl rfl ?_
    refine j_get 12 C fl6_48 (by decide) (ct_84 E _) rfl dX6_locate_245 ?_
    refine j_iload 1 C dX6_locate_248 rfl ?_
    refine j_iald C (by decide) (ct_94 E _) dX6_locate_250 ?_
    refine j_imul C dX6_locate_251 ?_
    refine j_bipush (v := 100) 100 C dX6_locate_252 (by decide) ?_
    refine j_aload_n 0 C dX6_locate_254 rfl rfl ?_
    refine j_get 12 C fl6_48 (by decide) (ct_84 E _) rfl dX6_locate_255 ?_
    refine j_iload 1 C dX6_locate_258 rfl ?_
    refine j_iconst (v := 1) 1 C dX6_locate_260 (by decide) ?_
    refine j_iadd C dX6_locate_261 ?_
    refine j_iald C (by decide) (ct_94 E _) dX6_locate_262 ?_
    refine j_iload 4 C dX6_locate_263 rfl ?_
    refine j_iadd C dX6_locate_265 ?_
    refine j_imul C dX6_locate_266 ?_
    refine j_iadd C dX6_locate_267 ?_
    refine j_iload 3 C dX6_locate_268 rfl ?_
    refine j_iadd C dX6_locate_270 ?_
    refine j_iload 2 C dX6_locate_271 rfl ?_
    refine j_iadd C dX6_locate_273 ?_
    exact j_iret C hr hlocks rfl dX6_locate_274 (Nat.le_of_ble_eq_true rfl) (Nat.le_of_ble_eq_true rfl)
  have wJ115 : ∀ (x4 : Int32) (x5 : Int32) (y0 : Int32) (y1 : Int32) (σ : Hp), J E 9 p l e rm6_locate s m args below meth c (QI E below args s rm6_locate.cells rm6_locate.slots) (f6_locate_J115 N x1 x2 x4 x5 y0 y1 σ) 115 [(0, .ref (ea E 84)), (4, .int x4), (5, .int x5)] [.int y0, .int y1] σ 0 0 := by
    intro x4 x5 y0 y1 σ
    unfold f6_locate_J115
    refine j_iadd C dX6_locate_115 ?_
    refine j_istore [(6, .int (y1 + y0)), (0, .ref (ea E 84)), (4, .int x4), (5, .int x5)] C dX6_locate_116 (by decide) rfl ?_
    refine j_iconst (v := 0) 0 C dX6_locate_118 (by decide) ?_
    refine j_istore [(7, .int 0), (6, .int (y1 + y0)), (0, .ref (ea E 84)), (4, .int x4), (5, .int x5)] C dX6_locate_119 (by decide) rfl ?_
    refine j_aload_n 2 C dX6_locate_121 rfl rfl ?_
    refine j_get 12 C fl6_48 (by decide) (ct_84 E _) rfl dX6_locate_122 ?_
    refine j_iload 3 C dX6_locate_125 rfl ?_
    refine j_iconst (v := 5) 5 C dX6_locate_127 (by decide) ?_
    refine j_iadd C dX6_locate_128 ?_
    refine j_iald C (by decide) (ct_94 E _) dX6_locate_129 ?_
    refine j_aload_n 2 C dX6_locate_130 rfl rfl ?_
    refine j_get 12 C fl6_48 (by decide) (ct_84 E _) rfl dX6_locate_131 ?_
    refine j_iload 3 C dX6_locate_134 rfl ?_
    refine j_iconst (v := 3) 3 C dX6_locate_136 (by decide) ?_
    refine j_iadd C dX6_locate_137 ?_
    refine j_iald C (by decide) (ct_94 E _) dX6_locate_138 ?_
    refine j_idiv C dX6_locate_139 ?_
    refine j_aload_n 2 C dX6_locate_140 rfl rfl ?_
    refine j_get 12 C fl6_48 (by decide) (ct_84 E _) rfl dX6_locate_141 ?_
    refine j_iload 3 C dX6_locate_144 rfl ?_
    refine j_iconst (v := 5) 5 C dX6_locate_146 (by decide) ?_
    refine j_iadd C dX6_locate_147 ?_
    refine j_iald C (by decide) (ct_94 E _) dX6_locate_148 ?_
    refine j_aload_n 2 C dX6_locate_149 rfl rfl ?_
    refine j_get 12 C fl6_48 (by decide) (ct_84 E _) rfl dX6_locate_150 ?_
    refine j_iload 3 C dX6_locate_153 rfl ?_
    refine j_iconst (v := 3) 3 C dX6_locate_155 (by decide) ?_
    refine j_iadd C dX6_locate_156 ?_
    refine j_iald C (by decide) (ct_94 E _) dX6_locate_157 ?_
    refine j_irem C dX6_locate_158 ?_
    refine j_zle 166 C dX6_locate_159 (by decide) ?_ ?_
    · refine j_iconst (v := 0) 0 C dX6_locate_166 (by decide) ?_
      exact j_sub [2, 3, 4, 1, 0] rfl (wJ167 x4 x5 (y1 + y0) 0 0 ((σ 94 (x4 + 5).toNatClampNeg) / (σ 94 (x4 + 3).toNatClampNeg)) σ)
    · refine j_iconst (v := 1) 1 C dX6_locate_162 (by decide) ?_
      refine j_goto 167 C dX6_locate_163 (by decide) ?_
      exact j_sub [2, 3, 4, 1, 0] rfl (wJ167 x4 x5 (y1 + y0) 0 1 ((σ 94 (x4 + 5).toNatClampNeg) / (σ 94 (x4 + 3).toNatClampNeg)) σ)
  have wL36 : ∀ (K36 : Hp → Option (Int32 × Hp)), (∀ (σ : Hp), J E 9 p l e rm6_locate s m args below meth c (QI E below args s rm6_locate.cells rm6_locate.slots) (K36 σ) 281 [(0, .ref (ea E 84))] [] σ 0 0) → ∀ (n36 : Nat) (x3 : Int32) (σ : Hp), J E 9 p l e rm6_locate s m args below meth c (QI E below args s rm6_locate.cells rm6_locate.slots) (f6_locate_L36 N x1 x2 K36 n36 x3 σ) 36 [(0, .ref (ea E 84)), (1, .int x1), (2, .int x2), (3, .int x3)] [] σ 0 0 := by
    intro K36 HK36 n36
    induction n36 with
    | zero => intro x3 σ; exact j_none
    | succ n36 ih36 =>
      intro x3 σ
      show J E 9 p l e rm6_locate s m args below meth c (QI E below args s rm6_locate.cells rm6_locate.slots) (f6_locate_B36 N x1 x2 K36 (f6_locate_L36 N x1 x2 K36 n36) x3 σ) 36 [(0, .ref (ea E 84)), (1, .int x1), (2, .int x2), (3, .int x3)] [] σ 0 0
      unfold f6_locate_B36
      refine j_iload_n 3 C dX6_locate_36 rfl rfl ?_
      refine j_aload_n 0 C dX6_locate_37 rfl rfl ?_
      refine j_get 11 C fl6_45 (by decide) (ct_84 E _) rfl dX6_locate_38 ?_
      refine j_iload_n 1 C dX6_locate_41 rfl rfl ?_
      refine j_iald C (by decide) (ct_93 E _) dX6_locate_42 ?_
      refine j_ige 281 C dX6_locate_43 (by decide) ?_ ?_
      · exact j_sub [0] rfl (HK36 σ)
      · refine j_bipush (v := 8) 8 C dX6_locate_46 (by decide) ?_
        refine j_iconst (v := 4) 4 C dX6_locate_48 (by decide) ?_
        refine j_iload_n 1 C dX6_locate_49 rfl rfl ?_
        refine j_imul C dX6_locate_50 ?_
        refine j_iload_n 3 C dX6_locate_51 rfl rfl ?_
        refine j_iadd C dX6_locate_52 ?_
        refine j_imul C dX6_locate_53 ?_
        refine j_istore [(4, .int (8 * ((4 * x1) + x3))), (0, .ref (ea E 84)), (1, .int x1), (2, .int x2), (3, .int x3)] C dX6_locate_54 (by decide) rfl ?_
        refine j_iload_n 3 C dX6_locate_56 rfl rfl ?_
        refine j_aload_n 1 C dX6_locate_57 rfl rfl ?_
        refine j_get 12 C fl6_48 (by decide) (ct_84 E _) rfl dX6_locate_58 ?_
        refine j_iload 0 C dX6_locate_61 rfl ?_
        refine j_bipush (v := 6) 6 C dX6_locate_63 (by decide) ?_
        refine j_iadd C dX6_locate_65 ?_
        refine j_iald C (by decide) (ct_94 E _) dX6_locate_66 ?_
        refine j_isub C dX6_locate_67 ?_
        refine j_istore [(5, .int (x2 - (σ 94 ((8 * ((4 * x1) + x3)) + 6).toNatClampNeg))), (4, .int (8 * ((4 * x1) + x3))), (0, .ref (ea E 84)), (1, .int x1), (2, .int x2), (3, .int x3)] C dX6_locate_68 (by decide) rfl ?_
        refine j_iload 0 C dX6_locate_70 rfl ?_
        refine j_iconst (v := 0) 0 C dX6_locate_72 (by decide) ?_
        refine j_aload_n 2 C dX6_locate_73 rfl rfl ?_
        refine j_get 12 C fl6_48 (by decide) (ct_84 E _) rfl dX6_locate_74 ?_
        refine j_iload 1 C dX6_locate_77 rfl ?_
        refine j_iconst (v := 5) 5 C dX6_locate_79 (by decide) ?_
        refine j_iadd C dX6_locate_80 ?_
        refine j_iald C (by decide) (ct_94 E _) dX6_locate_81 ?_
        refine j_iconst (v := 1) 1 C dX6_locate_82 (by decide) ?_
        refine j_isub C dX6_locate_83 ?_
        refine j_callSI [.int (x2 - (σ 94 ((8 * ((4 * x1) + x3)) + 6).toNatClampNeg)), .int 0, .int ((σ 94 ((8 * ((4 * x1) + x3)) + 5).toNatClampNeg) - 1)] (con6_in N (x2 - (σ 94 ((8 * ((4 * x1) + x3)) + 6).toNatClampNeg)) 0 ((σ 94 ((8 * ((4 * x1) + x3)) + 5).toNatClampNeg) - 1)) C mi6_in ms6_in lk6_88 rfl rfl ⟨Nat.le_of_ble_eq_true rfl, Nat.le_of_ble_eq_true rfl, Nat.le_of_ble_eq_true rfl, Nat.le_of_ble_eq_true rfl, Nat.le_of_ble_eq_true rfl⟩ dX6_locate_84 (fun r84 σ84 => ?_)
        refine j_zne 93 C dX6_locate_87 (by decide) ?_ ?_
        · refine j_aload_n 2 C dX6_locate_93 rfl rfl ?_
          refine j_get 12 C fl6_48 (by decide) (ct_84 E _) rfl dX6_locate_94 ?_
          refine j_iload 1 C dX6_locate_97 rfl ?_
          refine j_iconst (v := 2) 2 C dX6_locate_99 (by decide) ?_
          refine j_iadd C dX6_locate_100 ?_
          refine j_iald C (by decide) (ct_94 E _) dX6_locate_101 ?_
          refine j_iload_n 5 C dX6_locate_102 rfl rfl ?_
          refine j_zne 114 C dX6_locate_103 (by decide) ?_ ?_
          · refine j_iconst (v := 1) 1 C dX6_locate_114 (by decide) ?_
            exact j_sub [2, 1, 0] rfl (wJ115 (8 * ((4 * x1) + x3)) (x2 - (σ 94 ((8 * ((4 * x1) + x3)) + 6).toNatClampNeg)) 1 (σ84 94 ((8 * ((4 * x1) + x3)) + 2).toNatClampNeg) σ84)
          · refine j_aload_n 2 C dX6_locate_106 rfl rfl ?_
            refine j_iload_n 3 C dX6_locate_107 rfl rfl ?_
            refine j_callVI [.int x1] (con6_head N x1) C mi6_head mv6_head lk6_164 (by decide) (ct_84 E _) rfl rfl rfl ⟨Nat.le_of_ble_eq_true rfl, Nat.le_of_ble_eq_true rfl, Nat.le_of_ble_eq_true rfl, Nat.le_of_ble_eq_true rfl, Nat.le_of_ble_eq_true rfl⟩ dX6_locate_108 (fun r108 σ108 => ?_)
            refine j_goto 115 C dX6_locate_111 (by decide) ?_
            exact j_sub [2, 1, 0] rfl (wJ115 (8 * ((4 * x1) + x3)) (x2 - (σ 94 ((8 * ((4 * x1) + x3)) + 6).toNatClampNeg)) r108 (σ84 94 ((8 * ((4 * x1) + x3)) + 2).toNatClampNeg) σ108)
        · refine j_goto 275 C dX6_locate_90 (by decide) ?_
          refine j_iinc 5 1 [(3, .int (x3 + 1)), (5, .int (x2 - (σ 94 ((8 * ((4 * x1) + x3)) + 6).toNatClampNeg))), (4, .int (8 * ((4 * x1) + x3))), (0, .ref (ea E 84)), (1, .int x1), (2, .int x2)] C dX6_locate_275 rfl rfl (by decide) rfl ?_
          refine j_goto 36 C dX6_locate_278 (by decide) ?_
          exact j_sub [3, 4, 5, 0] rfl (ih36 (x3 + 1) σ84)
  have wJ28 : ∀ (σ : Hp), J E 9 p l e rm6_locate s m args below meth c (QI E below args s rm6_locate.cells rm6_locate.slots) (f6_locate_J28 N x1 x2 σ) 28 [(0, .ref (ea E 84))] [] σ 0 0 := by
    intro σ
    unfold f6_locate_J28
    refine j_aload_n 0 C dX6_locate_28 rfl rfl ?_
    refine j_iconst (v := 1) 1 C dX6_locate_29 (by decide) ?_
    refine j_callVI [.int 1] (con6_fails N 1) C mi6_fails mv6_fails lk6_99 (by decide) (ct_84 E _) rfl rfl rfl ⟨Nat.le_of_ble_eq_true rfl, Nat.le_of_ble_eq_true rfl, Nat.le_of_ble_eq_true rfl, Nat.le_of_ble_eq_true rfl, Nat.le_of_ble_eq_true rfl⟩ dX6_locate_30 (fun r30 σ30 => ?_)
    exact j_iret C hr hlocks rfl dX6_locate_33 (Nat.le_of_ble_eq_true rfl) (Nat.le_of_ble_eq_true rfl)
  unfold f6_locate
  refine j_aload_n 0 C dX6_locate_0 rfl rfl ?_
  refine j_callVV [] (con6_asks N) C mi6_asks mv6_asks lk6_198 (by decide) (ct_84 E _) rfl rfl rfl ⟨Nat.le_of_ble_eq_true rfl, Nat.le_of_ble_eq_true rfl, Nat.le_of_ble_eq_true rfl, Nat.le_of_ble_eq_true rfl, Nat.le_of_ble_eq_true rfl⟩ dX6_locate_1 (fun σ1 => ?_)
  refine j_aload_n 0 C dX6_locate_4 rfl rfl ?_
  refine j_iload_n 1 C dX6_locate_5 rfl rfl ?_
  refine j_callVI [.int x1] (con6_isStory N x1) C mi6_isStory mv6_isStory lk6_111 (by decide) (ct_84 E _) rfl rfl rfl ⟨Nat.le_of_ble_eq_true rfl, Nat.le_of_ble_eq_true rfl, Nat.le_of_ble_eq_true rfl, Nat.le_of_ble_eq_true rfl, Nat.le_of_ble_eq_true rfl⟩ dX6_locate_6 (fun r6 σ6 => ?_)
  refine j_zeq 28 C dX6_locate_9 (by decide) ?_ ?_
  · exact j_sub [0] rfl (wJ28 σ6)
  · refine j_iload_n 2 C dX6_locate_12 rfl rfl ?_
    refine j_iconst (v := 0) 0 C dX6_locate_13 (by decide) ?_
    refine j_aload_n 0 C dX6_locate_14 rfl rfl ?_
    refine j_iload_n 1 C dX6_locate_15 rfl rfl ?_
    refine j_iconst (v := 4) 4 C dX6_locate_16 (by decide) ?_
    refine j_callVI [.int x1, .int 4] (con6_of N x1 4) C mi6_of mv6_of lk6_92 (by decide) (ct_84 E _) rfl rfl rfl ⟨Nat.le_of_ble_eq_true rfl, Nat.le_of_ble_eq_true rfl, Nat.le_of_ble_eq_true rfl, Nat.le_of_ble_eq_true rfl, Nat.le_of_ble_eq_true rfl⟩ dX6_locate_17 (fun r17 σ17 => ?_)
    refine j_iconst (v := 1) 1 C dX6_locate_20 (by decide) ?_
    refine j_isub C dX6_locate_21 ?_
    refine j_callSI [.int x2, .int 0, .int (r17 - 1)] (con6_in N x2 0 (r17 - 1)) C mi6_in ms6_in lk6_88 rfl rfl ⟨Nat.le_of_ble_eq_true rfl, Nat.le_of_ble_eq_true rfl, Nat.le_of_ble_eq_true rfl, Nat.le_of_ble_eq_true rfl, Nat.le_of_ble_eq_true rfl⟩ dX6_locate_22 (fun r22 σ22 => ?_)
    refine j_zne 34 C dX6_locate_25 (by decide) ?_ ?_
    · refine j_iconst (v := 0) 0 C dX6_locate_34 (by decide) ?_
      refine j_istore_n [(3, .int 0), (0, .ref (ea E 84)), (1, .int x1), (2, .int x2)] C dX6_locate_35 rfl (by decide) rfl ?_
      refine j_sub [1, 2, 3, 0] rfl (wL36 _ (fun σL36 => ?_) N 0 σ22)
      refine j_aload_n 0 C dX6_locate_281 rfl rfl ?_
      refine j_iconst (v := 2) 2 C dX6_locate_282 (by decide) ?_
      refine j_callVI [.int 2] (con6_fails N 2) C mi6_fails mv6_fails lk6_99 (by decide) (ct_84 E _) rfl rfl rfl ⟨Nat.le_of_ble_eq_true rfl, Nat.le_of_ble_eq_true rfl, Nat.le_of_ble_eq_true rfl, Nat.le_of_ble_eq_true rfl, Nat.le_of_ble_eq_true rfl⟩ dX6_locate_283 (fun r283 σ283 => ?_)
      exact j_iret C hr hlocks rfl dX6_locate_286 (Nat.le_of_ble_eq_true rfl) (Nat.le_of_ble_eq_true rfl)
    · exact j_sub [0] rfl (wJ28 σ22)
set_option maxHeartbeats 4000000 in
set_option maxRecDepth 100000 in
theorem con6_ranked (N : Nat) (x1 : Int32) : ConI yX6_ranked cX6_ranked 2 .int rm6_ranked (fun E => [.ref (ea E 84), .int x1]) (f6_ranked N x1) := by
  refine conI_of (L := fun E => [(0, .ref (ea E 84)), (1, .int x1)]) (by decide) (fun _ => Nat.le_of_ble_eq_true rfl) (fun _ => rfl) ?_
  intro l E σ p e s m args below meth c C hr hlocks
  unfold f6_ranked
  refine j_aload_n 0 C dX6_ranked_0 rfl rfl ?_
  refine j_callVV [] (con6_asks N) C mi6_asks mv6_asks lk6_198 (by decide) (ct_84 E _) rfl rfl rfl ⟨Nat.le_of_ble_eq_true rfl, Nat.le_of_ble_eq_true rfl, Nat.le_of_ble_eq_true rfl, Nat.le_of_ble_eq_true rfl, Nat.le_of_ble_eq_true rfl⟩ dX6_ranked_1 (fun σ1 => ?_)
  refine j_iload_n 1 C dX6_ranked_4 rfl rfl ?_
  refine j_iconst (v := 0) 0 C dX6_ranked_5 (by decide) ?_
  refine j_aload_n 0 C dX6_ranked_6 rfl rfl ?_
  refine j_get 14 C fl6_54 (by decide) (ct_84 E _) rfl dX6_ranked_7 ?_
  refine j_iconst (v := 1) 1 C dX6_ranked_10 (by decide) ?_
  refine j_isub C dX6_ranked_11 ?_
  refine j_callSI [.int x1, .int 0, .int ((σ1 84 14) - 1)] (con6_in N x1 0 ((σ1 84 14) - 1)) C mi6_in ms6_in lk6_88 rfl rfl ⟨Nat.le_of_ble_eq_true rfl, Nat.le_of_ble_eq_true rfl, Nat.le_of_ble_eq_true rfl, Nat.le_of_ble_eq_true rfl, Nat.le_of_ble_eq_true rfl⟩ dX6_ranked_12 (fun r12 σ12 => ?_)
  refine j_zeq 27 C dX6_ranked_15 (by decide) ?_ ?_
  · refine j_aload_n 0 C dX6_ranked_27 rfl rfl ?_
    refine j_iconst (v := 1) 1 C dX6_ranked_28 (by decide) ?_
    refine j_callVI [.int 1] (con6_fails N 1) C mi6_fails mv6_fails lk6_99 (by decide) (ct_84 E _) rfl rfl rfl ⟨Nat.le_of_ble_eq_true rfl, Nat.le_of_ble_eq_true rfl, Nat.le_of_ble_eq_true rfl, Nat.le_of_ble_eq_true rfl, Nat.le_of_ble_eq_true rfl⟩ dX6_ranked_29 (fun r29 σ29 => ?_)
    exact j_iret C hr hlocks rfl dX6_ranked_32 (Nat.le_of_ble_eq_true rfl) (Nat.le_of_ble_eq_true rfl)
  · refine j_aload_n 0 C dX6_ranked_18 rfl rfl ?_
    refine j_get 9 C fl6_39 (by decide) (ct_84 E _) rfl dX6_ranked_19 ?_
    refine j_iload_n 1 C dX6_ranked_22 rfl rfl ?_
    refine j_iald C (by decide) (ct_91 E _) dX6_ranked_23 ?_
    refine j_goto 32 C dX6_ranked_24 (by decide) ?_
    exact j_iret C hr hlocks rfl dX6_ranked_32 (Nat.le_of_ble_eq_true rfl) (Nat.le_of_ble_eq_true rfl)
set_option maxHeartbeats 4000000 in
set_option maxRecDepth 100000 in
theorem con6_fateOf (N : Nat) (x1 : Int32) : ConI yX6_fateOf cX6_fateOf 2 .int rm6_fateOf (fun E => [.ref (ea E 84), .int x1]) (f6_fateOf N x1) := by
  refine conI_of (L := fun E => [(0, .ref (ea E 84)), (1, .int x1)]) (by decide) (fun _ => Nat.le_of_ble_eq_true rfl) (fun _ => rfl) ?_
  intro l E σ p e s m args below meth c C hr hlocks
  unfold f6_fateOf
  refine j_aload_n 0 C dX6_fateOf_0 rfl rfl ?_
  refine j_get 10 C fl6_42 (by decide) (ct_84 E _) rfl dX6_fateOf_1 ?_
  refine j_iload_n 1 C dX6_fateOf_4 rfl rfl ?_
  refine j_iald C (by decide) (ct_92 E _) dX6_fateOf_5 ?_
  refine j_zge 11 C dX6_fateOf_6 (by decide) ?_ ?_
  · refine j_aload_n 0 C dX6_fateOf_11 rfl rfl ?_
    refine j_get 10 C fl6_42 (by decide) (ct_84 E _) rfl dX6_fateOf_12 ?_
    refine j_iload_n 1 C dX6_fateOf_15 rfl rfl ?_
    refine j_iald C (by decide) (ct_92 E _) dX6_fateOf_16 ?_
    refine j_aload_n 0 C dX6_fateOf_17 rfl rfl ?_
    refine j_iload_n 1 C dX6_fateOf_18 rfl rfl ?_
    refine j_iconst (v := 1) 1 C dX6_fateOf_19 (by decide) ?_
    refine j_callVI [.int x1, .int 1] (con6_of N x1 1) C mi6_of mv6_of lk6_92 (by decide) (ct_84 E _) rfl rfl rfl ⟨Nat.le_of_ble_eq_true rfl, Nat.le_of_ble_eq_true rfl, Nat.le_of_ble_eq_true rfl, Nat.le_of_ble_eq_true rfl, Nat.le_of_ble_eq_true rfl⟩ dX6_fateOf_20 (fun r20 σ20 => ?_)
    refine j_ieq 28 C dX6_fateOf_23 (by decide) ?_ ?_
    · refine j_aload_n 0 C dX6_fateOf_28 rfl rfl ?_
      refine j_iload_n 1 C dX6_fateOf_29 rfl rfl ?_
      refine j_callVI [.int x1] (con6_linesOn N x1) C mi6_linesOn mv6_linesOn lk6_204 (by decide) (ct_84 E _) rfl rfl rfl ⟨Nat.le_of_ble_eq_true rfl, Nat.le_of_ble_eq_true rfl, Nat.le_of_ble_eq_true rfl, Nat.le_of_ble_eq_true rfl, Nat.le_of_ble_eq_true rfl⟩ dX6_fateOf_30 (fun r30 σ30 => ?_)
      refine j_aload_n 0 C dX6_fateOf_33 rfl rfl ?_
      refine j_iload_n 1 C dX6_fateOf_34 rfl rfl ?_
      refine j_iconst (v := 4) 4 C dX6_fateOf_35 (by decide) ?_
      refine j_callVI [.int x1, .int 4] (con6_of N x1 4) C mi6_of mv6_of lk6_92 (by decide) (ct_84 E _) rfl rfl rfl ⟨Nat.le_of_ble_eq_true rfl, Nat.le_of_ble_eq_true rfl, Nat.le_of_ble_eq_true rfl, Nat.le_of_ble_eq_true rfl, Nat.le_of_ble_eq_true rfl⟩ dX6_fateOf_36 (fun r36 σ36 => ?_)
      refine j_ige 46 C dX6_fateOf_39 (by decide) ?_ ?_
      · refine j_iconst (v := 0) 0 C dX6_fateOf_46 (by decide) ?_
        exact j_iret C hr hlocks rfl dX6_fateOf_47 (Nat.le_of_ble_eq_true rfl) (Nat.le_of_ble_eq_true rfl)
      · refine j_iconst (v := 1) 1 C dX6_fateOf_42 (by decide) ?_
        refine j_goto 47 C dX6_fateOf_43 (by decide) ?_
        exact j_iret C hr hlocks rfl dX6_fateOf_47 (Nat.le_of_ble_eq_true rfl) (Nat.le_of_ble_eq_true rfl)
    · refine j_iconst (v := 2) 2 C dX6_fateOf_26 (by decide) ?_
      exact j_iret C hr hlocks rfl dX6_fateOf_27 (Nat.le_of_ble_eq_true rfl) (Nat.le_of_ble_eq_true rfl)
  · refine j_iconst (v := 3) 3 C dX6_fateOf_9 (by decide) ?_
    exact j_iret C hr hlocks rfl dX6_fateOf_10 (Nat.le_of_ble_eq_true rfl) (Nat.le_of_ble_eq_true rfl)
set_option maxHeartbeats 4000000 in
set_option maxRecDepth 100000 in
theorem con6_fate (N : Nat) (x1 : Int32) : ConI yX6_fate cX6_fate 2 .int rm6_fate (fun E => [.ref (ea E 84), .int x1]) (f6_fate N x1) := by
  refine conI_of (L := fun E => [(0, .ref (ea E 84)), (1, .int x1)]) (by decide) (fun _ => Nat.le_of_ble_eq_true rfl) (fun _ => rfl) ?_
  intro l E σ p e s m args below meth c C hr hlocks
  unfold f6_fate
  refine j_aload_n 0 C dX6_fate_0 rfl rfl ?_
  refine j_callVV [] (con6_asks N) C mi6_asks mv6_asks lk6_198 (by decide) (ct_84 E _) rfl rfl rfl ⟨Nat.le_of_ble_eq_true rfl, Nat.le_of_ble_eq_true rfl, Nat.le_of_ble_eq_true rfl, Nat.le_of_ble_eq_true rfl, Nat.le_of_ble_eq_true rfl⟩ dX6_fate_1 (fun σ1 => ?_)
  refine j_aload_n 0 C dX6_fate_4 rfl rfl ?_
  refine j_iload_n 1 C dX6_fate_5 rfl rfl ?_
  refine j_callVI [.int x1] (con6_isStory N x1) C mi6_isStory mv6_isStory lk6_111 (by decide) (ct_84 E _) rfl rfl rfl ⟨Nat.le_of_ble_eq_true rfl, Nat.le_of_ble_eq_true rfl, Nat.le_of_ble_eq_true rfl, Nat.le_of_ble_eq_true rfl, Nat.le_of_ble_eq_true rfl⟩ dX6_fate_6 (fun r6 σ6 => ?_)
  refine j_zeq 20 C dX6_fate_9 (by decide) ?_ ?_
  · refine j_aload_n 0 C dX6_fate_20 rfl rfl ?_
    refine j_iconst (v := 1) 1 C dX6_fate_21 (by decide) ?_
    refine j_callVI [.int 1] (con6_fails N 1) C mi6_fails mv6_fails lk6_99 (by decide) (ct_84 E _) rfl rfl rfl ⟨Nat.le_of_ble_eq_true rfl, Nat.le_of_ble_eq_true rfl, Nat.le_of_ble_eq_true rfl, Nat.le_of_ble_eq_true rfl, Nat.le_of_ble_eq_true rfl⟩ dX6_fate_22 (fun r22 σ22 => ?_)
    exact j_iret C hr hlocks rfl dX6_fate_25 (Nat.le_of_ble_eq_true rfl) (Nat.le_of_ble_eq_true rfl)
  · refine j_aload_n 0 C dX6_fate_12 rfl rfl ?_
    refine j_iload_n 1 C dX6_fate_13 rfl rfl ?_
    refine j_callVI [.int x1] (con6_fateOf N x1) C mi6_fateOf mv6_fateOf lk6_210 (by decide) (ct_84 E _) rfl rfl rfl ⟨Nat.le_of_ble_eq_true rfl, Nat.le_of_ble_eq_true rfl, Nat.le_of_ble_eq_true rfl, Nat.le_of_ble_eq_true rfl, Nat.le_of_ble_eq_true rfl⟩ dX6_fate_14 (fun r14 σ14 => ?_)
    refine j_goto 25 C dX6_fate_17 (by decide) ?_
    exact j_iret C hr hlocks rfl dX6_fate_25 (Nat.le_of_ble_eq_true rfl) (Nat.le_of_ble_eq_true rfl)
set_option maxHeartbeats 4000000 in
set_option maxRecDepth 100000 in
theorem con6_blamed (N : Nat) (x1 : Int32) : ConI yX6_blamed cX6_blamed 4 .int rm6_blamed (fun E => [.ref (ea E 84), .int x1]) (f6_blamed N x1) := by
  refine conI_of (L := fun E => [(0, .ref (ea E 84)), (1, .int x1)]) (by decide) (fun _ => Nat.le_of_ble_eq_true rfl) (fun _ => rfl) ?_
  intro l E σ p e s m args below meth c C hr hlocks
  have wL47 : ∀ (K47 : Hp → Option (Int32 × Hp)), (∀ (σ : Hp), J E 4 p l e rm6_blamed s m args below meth c (QI E below args s rm6_blamed.cells rm6_blamed.slots) (K47 σ) 86 [(0, .ref (ea E 84))] [] σ 0 0) → ∀ (n47 : Nat) (x2 : Int32) (σ : Hp), J E 4 p l e rm6_blamed s m args below meth c (QI E below args s rm6_blamed.cells rm6_blamed.slots) (f6_blamed_L47 N x1 K47 n47 x2 σ) 47 [(0, .ref (ea E 84)), (1, .int x1), (2, .int x2)] [] σ 0 0 := by
    intro K47 HK47 n47
    induction n47 with
    | zero => intro x2 σ; exact j_none
    | succ n47 ih47 =>
      intro x2 σ
      show J E 4 p l e rm6_blamed s m args below meth c (QI E below args s rm6_blamed.cells rm6_blamed.slots) (f6_blamed_B47 N x1 K47 (f6_blamed_L47 N x1 K47 n47) x2 σ) 47 [(0, .ref (ea E 84)), (1, .int x1), (2, .int x2)] [] σ 0 0
      unfold f6_blamed_B47
      refine j_iload_n 2 C dX6_blamed_47 rfl rfl ?_
      refine j_zlt 86 C dX6_blamed_48 (by decide) ?_ ?_
      · exact j_sub [0] rfl (HK47 σ)
      · refine j_aload_n 0 C dX6_blamed_51 rfl rfl ?_
        refine j_get 9 C fl6_39 (by decide) (ct_84 E _) rfl dX6_blamed_52 ?_
        refine j_iload_n 2 C dX6_blamed_55 rfl rfl ?_
        refine j_iald C (by decide) (ct_91 E _) dX6_blamed_56 ?_
        refine j_istore_n [(3, .int (σ 91 x2.toNatClampNeg)), (0, .ref (ea E 84)), (1, .int x1), (2, .int x2)] C dX6_blamed_57 rfl (by decide) rfl ?_
        refine j_aload_n 1 C dX6_blamed_58 rfl rfl ?_
        refine j_iload_n 0 C dX6_blamed_59 rfl rfl ?_
        refine j_callVV [.int (σ 91 x2.toNatClampNeg)] (con6_lays N (σ 91 x2.toNatClampNeg)) C mi6_lays mv6_lays lk6_195 (by decide) (ct_84 E _) rfl rfl rfl ⟨Nat.le_of_ble_eq_true rfl, Nat.le_of_ble_eq_true rfl, Nat.le_of_ble_eq_true rfl, Nat.le_of_ble_eq_true rfl, Nat.le_of_ble_eq_true rfl⟩ dX6_blamed_60 (fun σ60 => ?_)
        refine j_aload_n 1 C dX6_blamed_63 rfl rfl ?_
        refine j_get 10 C fl6_42 (by decide) (ct_84 E _) rfl dX6_blamed_64 ?_
        refine j_iload_n 2 C dX6_blamed_67 rfl rfl ?_
        refine j_iald C (by decide) (ct_92 E _) dX6_blamed_68 ?_
        refine j_aload_n 1 C dX6_blamed_69 rfl rfl ?_
        refine j_iload_n 2 C dX6_blamed_70 rfl rfl ?_
        refine j_iconst (v := 1) 1 C dX6_blamed_71 (by decide) ?_
        refine j_callVI [.int x1, .int 1] (con6_of N x1 1) C mi6_of mv6_of lk6_92 (by decide) (ct_84 E _) rfl rfl rfl ⟨Nat.le_of_ble_eq_true rfl, Nat.le_of_ble_eq_true rfl, Nat.le_of_ble_eq_true rfl, Nat.le_of_ble_eq_true rfl, Nat.le_of_ble_eq_true rfl⟩ dX6_blamed_72 (fun r72 σ72 => ?_)
        refine j_ine 80 C dX6_blamed_75 (by decide) ?_ ?_
        · refine j_iinc 3 (-1) [(2, .int (x2 + (-1))), (3, .int (σ 91 x2.toNatClampNeg)), (0, .ref (ea E 84)), (1, .int x1)] C dX6_blamed_80 rfl rfl (by decide) rfl ?_
          refine j_goto 47 C dX6_blamed_83 (by decide) ?_
          exact j_sub [2, 3, 0] rfl (ih47 (x2 + (-1)) σ72)
        · refine j_iload_n 0 C dX6_blamed_78 rfl rfl ?_
          exact j_iret C hr hlocks rfl dX6_blamed_79 (Nat.le_of_ble_eq_true rfl) (Nat.le_of_ble_eq_true rfl)
  unfold f6_blamed
  refine j_aload_n 0 C dX6_blamed_0 rfl rfl ?_
  refine j_callVV [] (con6_asks N) C mi6_asks mv6_asks lk6_198 (by decide) (ct_84 E _) rfl rfl rfl ⟨Nat.le_of_ble_eq_true rfl, Nat.le_of_ble_eq_true rfl, Nat.le_of_ble_eq_true rfl, Nat.le_of_ble_eq_true rfl, Nat.le_of_ble_eq_true rfl⟩ dX6_blamed_1 (fun σ1 => ?_)
  refine j_aload_n 0 C dX6_blamed_4 rfl rfl ?_
  refine j_iload_n 1 C dX6_blamed_5 rfl rfl ?_
  refine j_callVI [.int x1] (con6_isStory N x1) C mi6_isStory mv6_isStory lk6_111 (by decide) (ct_84 E _) rfl rfl rfl ⟨Nat.le_of_ble_eq_true rfl, Nat.le_of_ble_eq_true rfl, Nat.le_of_ble_eq_true rfl, Nat.le_of_ble_eq_true rfl, Nat.le_of_ble_eq_true rfl⟩ dX6_blamed_6 (fun r6 σ6 => ?_)
  refine j_zne 18 C dX6_blamed_9 (by decide) ?_ ?_
  · refine j_aload_n 0 C dX6_blamed_18 rfl rfl ?_
    refine j_get 10 C fl6_42 (by decide) (ct_84 E _) rfl dX6_blamed_19 ?_
    refine j_iload_n 1 C dX6_blamed_22 rfl rfl ?_
    refine j_iald C (by decide) (ct_92 E _) dX6_blamed_23 ?_
    refine j_aload_n 0 C dX6_blamed_24 rfl rfl ?_
    refine j_iload_n 1 C dX6_blamed_25 rfl rfl ?_
    refine j_iconst (v := 1) 1 C dX6_blamed_26 (by decide) ?_
    refine j_callVI [.int x1, .int 1] (con6_of N x1 1) C mi6_of mv6_of lk6_92 (by decide) (ct_84 E _) rfl rfl rfl ⟨Nat.le_of_ble_eq_true rfl, Nat.le_of_ble_eq_true rfl, Nat.le_of_ble_eq_true rfl, Nat.le_of_ble_eq_true rfl, Nat.le_of_ble_eq_true rfl⟩ dX6_blamed_27 (fun r27 σ27 => ?_)
    refine j_ine 39 C dX6_blamed_30 (by decide) ?_ ?_
    · refine j_aload_n 0 C dX6_blamed_39 rfl rfl ?_
      refine j_iload_n 1 C dX6_blamed_40 rfl rfl ?_
      refine j_callVI [.int x1] (con6_rankOf N x1) C mi6_rankOf mv6_rankOf lk6_201 (by decide) (ct_84 E _) rfl rfl rfl ⟨Nat.le_of_ble_eq_true rfl, Nat.le_of_ble_eq_true rfl, Nat.le_of_ble_eq_true rfl, Nat.le_of_ble_eq_true rfl, Nat.le_of_ble_eq_true rfl⟩ dX6_blamed_41 (fun r41 σ41 => ?_)
      refine j_iconst (v := 1) 1 C dX6_blamed_44 (by decide) ?_
      refine j_isub C dX6_blamed_45 ?_
      refine j_istore_n [(2, .int (r41 - 1)), (0, .ref (ea E 84)), (1, .int x1)] C dX6_blamed_46 rfl (by decide) rfl ?_
      refine j_sub [1, 2, 0] rfl (wL47 _ (fun σL47 => ?_) N (r41 - 1) σ41)
      refine j_aload_n 0 C dX6_blamed_86 rfl rfl ?_
      refine j_iconst (v := 2) 2 C dX6_blamed_87 (by decide) ?_
      refine j_callVI [.int 2] (con6_fails N 2) C mi6_fails mv6_fails lk6_99 (by decide) (ct_84 E _) rfl rfl rfl ⟨Nat.le_of_ble_eq_true rfl, Nat.le_of_ble_eq_true rfl, Nat.le_of_ble_eq_true rfl, Nat.le_of_ble_eq_true rfl, Nat.le_of_ble_eq_true rfl⟩ dX6_blamed_88 (fun r88 σ88 => ?_)
      exact j_iret C hr hlocks rfl dX6_blamed_91 (Nat.le_of_ble_eq_true rfl) (Nat.le_of_ble_eq_true rfl)
    · refine j_aload_n 0 C dX6_blamed_33 rfl rfl ?_
      refine j_iconst (v := 2) 2 C dX6_blamed_34 (by decide) ?_
      refine j_callVI [.int 2] (con6_fails N 2) C mi6_fails mv6_fails lk6_99 (by decide) (ct_84 E _) rfl rfl rfl ⟨Nat.le_of_ble_eq_true rfl, Nat.le_of_ble_eq_true rfl, Nat.le_of_ble_eq_true rfl, Nat.le_of_ble_eq_true rfl, Nat.le_of_ble_eq_true rfl⟩ dX6_blamed_35 (fun r35 σ35 => ?_)
      exact j_iret C hr hlocks rfl dX6_blamed_38 (Nat.le_of_ble_eq_true rfl) (Nat.le_of_ble_eq_true rfl)
  · refine j_aload_n 0 C dX6_blamed_12 rfl rfl ?_
    refine j_iconst (v := 1) 1 C dX6_blamed_13 (by decide) ?_
    refine j_callVI [.int 1] (con6_fails N 1) C mi6_fails mv6_fails lk6_99 (by decide) (ct_84 E _) rfl rfl rfl ⟨Nat.le_of_ble_eq_true rfl, Nat.le_of_ble_eq_true rfl, Nat.le_of_ble_eq_true rfl, Nat.le_of_ble_eq_true rfl, Nat.le_of_ble_eq_true rfl⟩ dX6_blamed_14 (fun r14 σ14 => ?_)
    exact j_iret C hr hlocks rfl dX6_blamed_17 (Nat.le_of_ble_eq_true rfl) (Nat.le_of_ble_eq_true rfl)
set_option maxHeartbeats 4000000 in
set_option maxRecDepth 100000 in
theorem con6_linesIf (N : Nat) (x1 : Int32) (x2 : Int32) : ConI yX6_linesIf cX6_linesIf 6 .int rm6_linesIf (fun E => [.ref (ea E 84), .int x1, .int x2]) (f6_linesIf N x1 x2) := by
  refine conI_of (L := fun E => [(0, .ref (ea E 84)), (1, .int x1), (2, .int x2)]) (by decide) (fun _ => Nat.le_of_ble_eq_true rfl) (fun _ => rfl) ?_
  intro l E σ p e s m args below meth c C hr hlocks
  have wJ30 : ∀ (y0 : Int32) (y1 : Int32) (σ : Hp), J E 6 p l e rm6_linesIf s m args below meth c (QI E below args s rm6_linesIf.cells rm6_linesIf.slots) (f6_linesIf_J30 N x1 x2 y0 y1 σ) 30 [(0, .ref (ea E 84)), (1, .int x1)] [.int y0, .int y1, .ref (ea E 84)] σ 0 0 := by
    intro y0 y1 σ
    unfold f6_linesIf_J30
    refine j_callVI [.int y1, .int y0] (con6_laysLate N y1 y0) C mi6_laysLate mv6_laysLate lk6_138 (by decide) (ct_84 E _) rfl rfl rfl ⟨Nat.le_of_ble_eq_true rfl, Nat.le_of_ble_eq_true rfl, Nat.le_of_ble_eq_true rfl, Nat.le_of_ble_eq_true rfl, Nat.le_of_ble_eq_true rfl⟩ dX6_linesIf_30 (fun r30 σ30 => ?_)
    refine j_istore_n [(3, .int r30), (0, .ref (ea E 84)), (1, .int x1)] C dX6_linesIf_33 rfl (by decide) rfl ?_
    refine j_aload_n 1 C dX6_linesIf_34 rfl rfl ?_
    refine j_iconst (v := (-1)) (-1) C dX6_linesIf_35 (by decide) ?_
    refine j_callVV [.int (-1)] (con6_lays N (-1)) C mi6_lays mv6_lays lk6_195 (by decide) (ct_84 E _) rfl rfl rfl ⟨Nat.le_of_ble_eq_true rfl, Nat.le_of_ble_eq_true rfl, Nat.le_of_ble_eq_true rfl, Nat.le_of_ble_eq_true rfl, Nat.le_of_ble_eq_true rfl⟩ dX6_linesIf_36 (fun σ36 => ?_)
    refine j_aload_n 1 C dX6_linesIf_39 rfl rfl ?_
    refine j_iload_n 2 C dX6_linesIf_40 rfl rfl ?_
    refine j_callVI [.int x1] (con6_linesOn N x1) C mi6_linesOn mv6_linesOn lk6_204 (by decide) (ct_84 E _) rfl rfl rfl ⟨Nat.le_of_ble_eq_true rfl, Nat.le_of_ble_eq_true rfl, Nat.le_of_ble_eq_true rfl, Nat.le_of_ble_eq_true rfl, Nat.le_of_ble_eq_true rfl⟩ dX6_linesIf_41 (fun r41 σ41 => ?_)
    refine j_istore [(4, .int r41), (3, .int r30), (0, .ref (ea E 84)), (1, .int x1)] C dX6_linesIf_44 (by decide) rfl ?_
    refine j_aload_n 2 C dX6_linesIf_46 rfl rfl ?_
    refine j_iload_n 3 C dX6_linesIf_47 rfl rfl ?_
    refine j_iload_n 1 C dX6_linesIf_48 rfl rfl ?_
    refine j_callVI [.int x1, .int r30] (con6_laysLate N x1 r30) C mi6_laysLate mv6_laysLate lk6_138 (by decide) (ct_84 E _) rfl rfl rfl ⟨Nat.le_of_ble_eq_true rfl, Nat.le_of_ble_eq_true rfl, Nat.le_of_ble_eq_true rfl, Nat.le_of_ble_eq_true rfl, Nat.le_of_ble_eq_true rfl⟩ dX6_linesIf_49 (fun r49 σ49 => ?_)
    refine j_istore [(5, .int r49), (4, .int r41), (3, .int r30), (0, .ref (ea E 84)), (1, .int x1)] C dX6_linesIf_52 (by decide) rfl ?_
    refine j_iload 1 C dX6_linesIf_54 rfl ?_
    exact j_iret C hr hlocks rfl dX6_linesIf_56 (Nat.le_of_ble_eq_true rfl) (Nat.le_of_ble_eq_true rfl)
  unfold f6_linesIf
  refine j_aload_n 0 C dX6_linesIf_0 rfl rfl ?_
  refine j_iconst (v := 0) 0 C dX6_linesIf_1 (by decide) ?_
  refine j_put 0 C fl6_3 rfl rfl rfl (by decide) (ct_84 E _) (Nat.le_of_ble_eq_true rfl) (ct_84 E _) dX6_linesIf_2 ?_
  refine j_aload_n 0 C dX6_linesIf_5 rfl rfl ?_
  refine j_iload_n 1 C dX6_linesIf_6 rfl rfl ?_
  refine j_callVI [.int x1] (con6_isStory N x1) C mi6_isStory mv6_isStory lk6_111 (by decide) (ct_84 E _) rfl rfl rfl ⟨Nat.le_of_ble_eq_true rfl, Nat.le_of_ble_eq_true rfl, Nat.le_of_ble_eq_true rfl, Nat.le_of_ble_eq_true rfl, Nat.le_of_ble_eq_true rfl⟩ dX6_linesIf_7 (fun r7 σ7 => ?_)
  refine j_zne 19 C dX6_linesIf_10 (by decide) ?_ ?_
  · refine j_aload_n 0 C dX6_linesIf_19 rfl rfl ?_
    refine j_iload_n 1 C dX6_linesIf_20 rfl rfl ?_
    refine j_iload_n 2 C dX6_linesIf_21 rfl rfl ?_
    refine j_zeq 29 C dX6_linesIf_22 (by decide) ?_ ?_
    · refine j_iconst (v := 0) 0 C dX6_linesIf_29 (by decide) ?_
      exact j_sub [0, 1] rfl (wJ30 0 x1 σ7)
    · refine j_iconst (v := 1) 1 C dX6_linesIf_25 (by decide) ?_
      refine j_goto 30 C dX6_linesIf_26 (by decide) ?_
      exact j_sub [0, 1] rfl (wJ30 1 x1 σ7)
  · refine j_aload_n 0 C dX6_linesIf_13 rfl rfl ?_
    refine j_iconst (v := 1) 1 C dX6_linesIf_14 (by decide) ?_
    refine j_callVI [.int 1] (con6_fails N 1) C mi6_fails mv6_fails lk6_99 (by decide) (ct_84 E _) rfl rfl rfl ⟨Nat.le_of_ble_eq_true rfl, Nat.le_of_ble_eq_true rfl, Nat.le_of_ble_eq_true rfl, Nat.le_of_ble_eq_true rfl, Nat.le_of_ble_eq_true rfl⟩ dX6_linesIf_15 (fun r15 σ15 => ?_)
    exact j_iret C hr hlocks rfl dX6_linesIf_18 (Nat.le_of_ble_eq_true rfl) (Nat.le_of_ble_eq_true rfl)
set_option maxHeartbeats 4000000 in
set_option maxRecDepth 100000 in
theorem con6_trim (N : Nat) (x1 : Int32) : ConI yX6_trim cX6_trim 2 .int rm6_trim (fun E => [.ref (ea E 84), .int x1]) (f6_trim N x1) := by
  refine conI_of (L := fun E => [(0, .ref (ea E 84)), (1, .int x1)]) (by decide) (fun _ => Nat.le_of_ble_eq_true rfl) (fun _ => rfl) ?_
  intro l E σ p e s m args below meth c C hr hlocks
  unfold f6_trim
  refine j_aload_n 0 C dX6_trim_0 rfl rfl ?_
  refine j_callVV [] (con6_asks N) C mi6_asks mv6_asks lk6_198 (by decide) (ct_84 E _) rfl rfl rfl ⟨Nat.le_of_ble_eq_true rfl, Nat.le_of_ble_eq_true rfl, Nat.le_of_ble_eq_true rfl, Nat.le_of_ble_eq_true rfl, Nat.le_of_ble_eq_true rfl⟩ dX6_trim_1 (fun σ1 => ?_)
  refine j_aload_n 0 C dX6_trim_4 rfl rfl ?_
  refine j_iload_n 1 C dX6_trim_5 rfl rfl ?_
  refine j_callVI [.int x1] (con6_isStory N x1) C mi6_isStory mv6_isStory lk6_111 (by decide) (ct_84 E _) rfl rfl rfl ⟨Nat.le_of_ble_eq_true rfl, Nat.le_of_ble_eq_true rfl, Nat.le_of_ble_eq_true rfl, Nat.le_of_ble_eq_true rfl, Nat.le_of_ble_eq_true rfl⟩ dX6_trim_6 (fun r6 σ6 => ?_)
  refine j_zne 18 C dX6_trim_9 (by decide) ?_ ?_
  · refine j_aload_n 0 C dX6_trim_18 rfl rfl ?_
    refine j_get 10 C fl6_42 (by decide) (ct_84 E _) rfl dX6_trim_19 ?_
    refine j_iload_n 1 C dX6_trim_22 rfl rfl ?_
    refine j_iald C (by decide) (ct_92 E _) dX6_trim_23 ?_
    refine j_zge 35 C dX6_trim_24 (by decide) ?_ ?_
    · refine j_iconst (v := 0) 0 C dX6_trim_35 (by decide) ?_
      refine j_aload_n 0 C dX6_trim_36 rfl rfl ?_
      refine j_iload_n 1 C dX6_trim_37 rfl rfl ?_
      refine j_iconst (v := 4) 4 C dX6_trim_38 (by decide) ?_
      refine j_callVI [.int x1, .int 4] (con6_of N x1 4) C mi6_of mv6_of lk6_92 (by decide) (ct_84 E _) rfl rfl rfl ⟨Nat.le_of_ble_eq_true rfl, Nat.le_of_ble_eq_true rfl, Nat.le_of_ble_eq_true rfl, Nat.le_of_ble_eq_true rfl, Nat.le_of_ble_eq_true rfl⟩ dX6_trim_39 (fun r39 σ39 => ?_)
      refine j_aload_n 0 C dX6_trim_42 rfl rfl ?_
      refine j_iload_n 1 C dX6_trim_43 rfl rfl ?_
      refine j_iconst (v := 2) 2 C dX6_trim_44 (by decide) ?_
      refine j_callVI [.int x1, .int 2] (con6_of N x1 2) C mi6_of mv6_of lk6_92 (by decide) (ct_84 E _) rfl rfl rfl ⟨Nat.le_of_ble_eq_true rfl, Nat.le_of_ble_eq_true rfl, Nat.le_of_ble_eq_true rfl, Nat.le_of_ble_eq_true rfl, Nat.le_of_ble_eq_true rfl⟩ dX6_trim_45 (fun r45 σ45 => ?_)
      refine j_aload_n 0 C dX6_trim_48 rfl rfl ?_
      refine j_get 13 C fl6_51 (by decide) (ct_84 E _) rfl dX6_trim_49 ?_
      refine j_iload_n 1 C dX6_trim_52 rfl rfl ?_
      refine j_iald C (by decide) (ct_95 E _) dX6_trim_53 ?_
      refine j_imul C dX6_trim_54 ?_
      refine j_isub C dX6_trim_55 ?_
      refine j_max C lm6_213 ⟨Nat.le_of_ble_eq_true rfl, Nat.le_of_ble_eq_true rfl, Nat.le_of_ble_eq_true rfl, Nat.le_of_ble_eq_true rfl⟩ dX6_trim_56 ?_
      exact j_iret C hr hlocks rfl dX6_trim_59 (Nat.le_of_ble_eq_true rfl) (Nat.le_of_ble_eq_true rfl)
    · refine j_aload_n 0 C dX6_trim_27 rfl rfl ?_
      refine j_iconst (v := 2) 2 C dX6_trim_28 (by decide) ?_
      refine j_callVI [.int 2] (con6_fails N 2) C mi6_fails mv6_fails lk6_99 (by decide) (ct_84 E _) rfl rfl rfl ⟨Nat.le_of_ble_eq_true rfl, Nat.le_of_ble_eq_true rfl, Nat.le_of_ble_eq_true rfl, Nat.le_of_ble_eq_true rfl, Nat.le_of_ble_eq_true rfl⟩ dX6_trim_29 (fun r29 σ29 => ?_)
      refine j_goto 59 C dX6_trim_32 (by decide) ?_
      exact j_iret C hr hlocks rfl dX6_trim_59 (Nat.le_of_ble_eq_true rfl) (Nat.le_of_ble_eq_true rfl)
  · refine j_aload_n 0 C dX6_trim_12 rfl rfl ?_
    refine j_iconst (v := 1) 1 C dX6_trim_13 (by decide) ?_
    refine j_callVI [.int 1] (con6_fails N 1) C mi6_fails mv6_fails lk6_99 (by decide) (ct_84 E _) rfl rfl rfl ⟨Nat.le_of_ble_eq_true rfl, Nat.le_of_ble_eq_true rfl, Nat.le_of_ble_eq_true rfl, Nat.le_of_ble_eq_true rfl, Nat.le_of_ble_eq_true rfl⟩ dX6_trim_14 (fun r14 σ14 => ?_)
    exact j_iret C hr hlocks rfl dX6_trim_17 (Nat.le_of_ble_eq_true rfl) (Nat.le_of_ble_eq_true rfl)
set_option maxHeartbeats 4000000 in
set_option maxRecDepth 100000 in
theorem con6_count (N : Nat) (x1 : Int32) : ConI yX6_count cX6_count 7 .int rm6_count (fun E => [.ref (ea E 84), .int x1]) (f6_count N x1) := by
  refine conI_of (L := fun E => [(0, .ref (ea E 84)), (1, .int x1)]) (by decide) (fun _ => Nat.le_of_ble_eq_true rfl) (fun _ => rfl) ?_
  intro l E σ p e s m args below meth c C hr hlocks
  have wL94 : ∀ (K94 : Int32 → Hp → Option (Int32 × Hp)), (∀ (x2 : Int32) (σ : Hp), J E 7 p l e rm6_count s m args below meth c (QI E below args s rm6_count.cells rm6_count.slots) (K94 x2 σ) 260 [(2, .int x2)] [] σ 0 0) → ∀ (n94 : Nat) (x2 : Int32) (x3 : Int32) (σ : Hp), J E 7 p l e rm6_count s m args below meth c (QI E below args s rm6_count.cells rm6_count.slots) (f6_count_L94 N x1 K94 n94 x2 x3 σ) 94 [(0, .ref (ea E 84)), (1, .int x1), (2, .int x2), (3, .int x3)] [] σ 0 0 := by
    intro K94 HK94 n94
    induction n94 with
    | zero => intro x2 x3 σ; exact j_none
    | succ n94 ih94 =>
      have wJ252 : ∀ (x3 : Int32) (y0 : Int32) (y1 : Int32) (σ : Hp), J E 7 p l e rm6_count s m args below meth c (QI E below args s rm6_count.cells rm6_count.slots) (f6_count_J252 N x1 K94 (f6_count_L94 N x1 K94 n94) x3 y0 y1 σ) 252 [(0, .ref (ea E 84)), (1, .int x1), (3, .int x3)] [.int y0, .int y1] σ 0 0 := by
        intro x3 y0 y1 σ
        unfold f6_count_J252
        refine j_iadd C dX6_count_252 ?_
        refine j_istore_n [(2, .int (y1 + y0)), (0, .ref (ea E 84)), (1, .int x1), (3, .int x3)] C dX6_count_253 rfl (by decide) rfl ?_
        refine j_iinc 3 1 [(3, .int (x3 + 1)), (2, .int (y1 + y0)), (0, .ref (ea E 84)), (1, .int x1)] C dX6_count_254 rfl rfl (by decide) rfl ?_
        refine j_goto 94 C dX6_count_257 (by decide) ?_
        exact j_sub [2, 3, 1, 0] rfl (ih94 (y1 + y0) (x3 + 1) σ)
      have wL116 : ∀ (x2 : Int32) (x3 : Int32) (x4 : Int32) (K116 : Int32 → Hp → Option (Int32 × Hp)), (∀ (x5 : Int32) (σ : Hp), J E 7 p l e rm6_count s m args below meth c (QI E below args s rm6_count.cells rm6_count.slots) (K116 x5 σ) 157 [(0, .ref (ea E 84)), (1, .int x1), (2, .int x2), (3, .int x3), (4, .int x4), (5, .int x5)] [] σ 0 0) → ∀ (n116 : Nat) (x5 : Int32) (x6 : Int32) (σ : Hp), J E 7 p l e rm6_count s m args below meth c (QI E below args s rm6_count.cells rm6_count.slots) (f6_count_L116 N x1 K94 (f6_count_L94 N x1 K94 n94) x2 x3 x4 K116 n116 x5 x6 σ) 116 [(0, .ref (ea E 84)), (1, .int x1), (2, .int x2), (3, .int x3), (4, .int x4), (5, .int x5), (6, .int x6)] [] σ 0 0 := by
        intro x2 x3 x4 K116 HK116 n116
        induction n116 with
        | zero => intro x5 x6 σ; exact j_none
        | succ n116 ih116 =>
          intro x5 x6 σ
          show J E 7 p l e rm6_count s m args below meth c (QI E below args s rm6_count.cells rm6_count.slots) (f6_count_B116 N x1 K94 (f6_count_L94 N x1 K94 n94) x2 x3 x4 K116 (f6_count_L116 N x1 K94 (f6_count_L94 N x1 K94 n94) x2 x3 x4 K116 n116) x5 x6 σ) 116 [(0, .ref (ea E 84)), (1, .int x1), (2, .int x2), (3, .int x3), (4, .int x4), (5, .int x5), (6, .int x6)] [] σ 0 0
          unfold f6_count_B116
          refine j_iload 6 C dX6_count_116 rfl ?_
          refine j_aload_n 0 C dX6_count_118 rfl rfl ?_
          refine j_get 11 C fl6_45 (by decide) (ct_84 E _) rfl dX6_count_119 ?_
          refine j_iload 4 C dX6_count_122 rfl ?_
          refine j_iald C (by decide) (ct_93 E _) dX6_count_124 ?_
          refine j_ige 157 C dX6_count_125 (by decide) ?_ ?_
          · exact j_sub [0, 1, 2, 3, 4, 5] rfl (HK116 x5 σ)
          · refine j_iload 5 C dX6_count_128 rfl ?_
            refine j_aload_n 0 C dX6_count_130 rfl rfl ?_
            refine j_get 12 C fl6_48 (by decide) (ct_84 E _) rfl dX6_count_131 ?_
            refine j_bipush (v := 8) 8 C dX6_count_134 (by decide) ?_
            refine j_iconst (v := 4) 4 C dX6_count_136 (by decide) ?_
            refine j_iload 4 C dX6_count_137 rfl ?_
            refine j_imul C dX6_count_139 ?_
            refine j_iload 6 C dX6_count_140 rfl ?_
            refine j_iadd C dX6_count_142 ?_
            refine j_imul C dX6_count_143 ?_
            refine j_bipush (v := 7) 7 C dX6_count_144 (by decide) ?_
            refine j_iadd C dX6_count_146 ?_
            refine j_iald C (by decide) (ct_94 E _) dX6_count_147 ?_
            refine j_iadd C dX6_count_148 ?_
            refine j_istore [(5, .int (x5 + (σ 94 ((8 * ((4 * x4) + x6)) + 7).toNatClampNeg))), (0, .ref (ea E 84)), (1, .int x1), (2, .int x2), (3, .int x3), (4, .int x4), (6, .int x6)] C dX6_count_149 (by decide) rfl ?_
            refine j_iinc 6 1 [(6, .int (x6 + 1)), (5, .int (x5 + (σ 94 ((8 * ((4 * x4) + x6)) + 7).toNatClampNeg))), (0, .ref (ea E 84)), (1, .int x1), (2, .int x2), (3, .int x3), (4, .int x4)] C dX6_count_151 rfl rfl (by decide) rfl ?_
            refine j_goto 116 C dX6_count_154 (by decide) ?_
            exact j_sub [2, 3, 4, 5, 6, 1, 0] rfl (ih116 (x5 + (σ 94 ((8 * ((4 * x4) + x6)) + 7).toNatClampNeg)) (x6 + 1) σ)
      intro x2 x3 σ
      show J E 7 p l e rm6_count s m args below meth c (QI E below args s rm6_count.cells rm6_count.slots) (f6_count_B94 N x1 K94 (f6_count_L94 N x1 K94 n94) x2 x3 σ) 94 [(0, .ref (ea E 84)), (1, .int x1), (2, .int x2), (3, .int x3)] [] σ 0 0
      unfold f6_count_B94
      refine j_iload_n 3 C dX6_count_94 rfl rfl ?_
      refine j_aload_n 0 C dX6_count_95 rfl rfl ?_
      refine j_get 14 C fl6_54 (by decide) (ct_84 E _) rfl dX6_count_96 ?_
      refine j_ige 260 C dX6_count_99 (by decide) ?_ ?_
      · exact j_sub [2] rfl (HK94 x2 σ)
      · refine j_aload_n 0 C dX6_count_102 rfl rfl ?_
        refine j_get 9 C fl6_39 (by decide) (ct_84 E _) rfl dX6_count_103 ?_
        refine j_iload_n 3 C dX6_count_106 rfl rfl ?_
        refine j_iald C (by decide) (ct_91 E _) dX6_count_107 ?_
        refine j_istore [(4, .int (σ 91 x3.toNatClampNeg)), (0, .ref (ea E 84)), (1, .int x1), (2, .int x2), (3, .int x3)] C dX6_count_108 (by decide) rfl ?_
        refine j_iconst (v := 0) 0 C dX6_count_110 (by decide) ?_
        refine j_istore [(5, .int 0), (4, .int (σ 91 x3.toNatClampNeg)), (0, .ref (ea E 84)), (1, .int x1), (2, .int x2), (3, .int x3)] C dX6_count_111 (by decide) rfl ?_
        refine j_iconst (v := 0) 0 C dX6_count_113 (by decide) ?_
        refine j_istore [(6, .int 0), (5, .int 0), (4, .int (σ 91 x3.toNatClampNeg)), (0, .ref (ea E 84)), (1, .int x1), (2, .int x2), (3, .int x3)] C dX6_count_114 (by decide) rfl ?_
        refine j_sub [3, 4, 5, 6, 2, 1, 0] rfl (wL116 x2 x3 (σ 91 x3.toNatClampNeg) _ (fun x5_116 σL116 => ?_) N 0 0 σ)
        refine j_iload_n 2 C dX6_count_157 rfl rfl ?_
        refine j_iload_n 1 C dX6_count_158 rfl rfl ?_
        refine j_iconst (v := 2) 2 C dX6_count_159 (by decide) ?_
        refine j_ine 181 C dX6_count_160 (by decide) ?_ ?_
        · refine j_iload_n 1 C dX6_count_181 rfl rfl ?_
          refine j_iconst (v := 3) 3 C dX6_count_182 (by decide) ?_
          refine j_ine 204 C dX6_count_183 (by decide) ?_ ?_
          · refine j_iload_n 1 C dX6_count_204 rfl rfl ?_
            refine j_iconst (v := 4) 4 C dX6_count_205 (by decide) ?_
            refine j_ine 214 C dX6_count_206 (by decide) ?_ ?_
            · refine j_iload_n 1 C dX6_count_214 rfl rfl ?_
              refine j_iconst (v := 5) 5 C dX6_count_215 (by decide) ?_
              refine j_ine 228 C dX6_count_216 (by decide) ?_ ?_
              · refine j_iload_n 1 C dX6_count_228 rfl rfl ?_
                refine j_bipush (v := 6) 6 C dX6_count_229 (by decide) ?_
                refine j_ine 251 C dX6_count_231 (by decide) ?_ ?_
                · refine j_iconst (v := 0) 0 C dX6_count_251 (by decide) ?_
                  exact j_sub [0, 1, 3] rfl (wJ252 x3 0 x2 σL116)
                · refine j_aload_n 0 C dX6_count_234 rfl rfl ?_
                  refine j_iload 4 C dX6_count_235 rfl ?_
                  refine j_iconst (v := 4) 4 C dX6_count_237 (by decide) ?_
                  refine j_callVI [.int (σ 91 x3.toNatClampNeg), .int 4] (con6_of N (σ 91 x3.toNatClampNeg) 4) C mi6_of mv6_of lk6_92 (by decide) (ct_84 E _) rfl rfl rfl ⟨Nat.le_of_ble_eq_true rfl, Nat.le_of_ble_eq_true rfl, Nat.le_of_ble_eq_true rfl, Nat.le_of_ble_eq_true rfl, Nat.le_of_ble_eq_true rfl⟩ dX6_count_238 (fun r238 σ238 => ?_)
                  refine j_aload_n 0 C dX6_count_241 rfl rfl ?_
                  refine j_iload 4 C dX6_count_242 rfl ?_
                  refine j_callVI [.int (σ 91 x3.toNatClampNeg)] (con6_linesOn N (σ 91 x3.toNatClampNeg)) C mi6_linesOn mv6_linesOn lk6_204 (by decide) (ct_84 E _) rfl rfl rfl ⟨Nat.le_of_ble_eq_true rfl, Nat.le_of_ble_eq_true rfl, Nat.le_of_ble_eq_true rfl, Nat.le_of_ble_eq_true rfl, Nat.le_of_ble_eq_true rfl⟩ dX6_count_244 (fun r244 σ244 => ?_)
                  refine j_isub C dX6_count_247 ?_
                  refine j_goto 252 C dX6_count_248 (by decide) ?_
                  exact j_sub [0, 1, 3] rfl (wJ252 x3 (r238 - r244) x2 σ244)
              · refine j_aload_n 0 C dX6_count_219 rfl rfl ?_
                refine j_iload 4 C dX6_count_220 rfl ?_
                refine j_callVI [.int (σ 91 x3.toNatClampNeg)] (con6_linesOn N (σ 91 x3.toNatClampNeg)) C mi6_linesOn mv6_linesOn lk6_204 (by decide) (ct_84 E _) rfl rfl rfl ⟨Nat.le_of_ble_eq_true rfl, Nat.le_of_ble_eq_true rfl, Nat.le_of_ble_eq_true rfl, Nat.le_of_ble_eq_true rfl, Nat.le_of_ble_eq_true rfl⟩ dX6_count_222 (fun r222 σ222 => ?_)
                refine j_goto 252 C dX6_count_225 (by decide) ?_
                exact j_sub [0, 1, 3] rfl (wJ252 x3 r222 x2 σ222)
            · refine j_iload 5 C dX6_count_209 rfl ?_
              refine j_goto 252 C dX6_count_211 (by decide) ?_
              exact j_sub [0, 1, 3] rfl (wJ252 x3 x5_116 x2 σL116)
          · refine j_aload_n 0 C dX6_count_186 rfl rfl ?_
            refine j_iload 4 C dX6_count_187 rfl ?_
            refine j_callVI [.int (σ 91 x3.toNatClampNeg)] (con6_fateOf N (σ 91 x3.toNatClampNeg)) C mi6_fateOf mv6_fateOf lk6_210 (by decide) (ct_84 E _) rfl rfl rfl ⟨Nat.le_of_ble_eq_true rfl, Nat.le_of_ble_eq_true rfl, Nat.le_of_ble_eq_true rfl, Nat.le_of_ble_eq_true rfl, Nat.le_of_ble_eq_true rfl⟩ dX6_count_189 (fun r189 σ189 => ?_)
            refine j_iconst (v := 2) 2 C dX6_count_192 (by decide) ?_
            refine j_ine 200 C dX6_count_193 (by decide) ?_ ?_
            · refine j_iconst (v := 0) 0 C dX6_count_200 (by decide) ?_
              refine j_goto 252 C dX6_count_201 (by decide) ?_
              exact j_sub [0, 1, 3] rfl (wJ252 x3 0 x2 σ189)
            · refine j_iconst (v := 1) 1 C dX6_count_196 (by decide) ?_
              refine j_goto 252 C dX6_count_197 (by decide) ?_
              exact j_sub [0, 1, 3] rfl (wJ252 x3 1 x2 σ189)
        · refine j_aload_n 0 C dX6_count_163 rfl rfl ?_
          refine j_iload 4 C dX6_count_164 rfl ?_
          refine j_callVI [.int (σ 91 x3.toNatClampNeg)] (con6_fateOf N (σ 91 x3.toNatClampNeg)) C mi6_fateOf mv6_fateOf lk6_210 (by decide) (ct_84 E _) rfl rfl rfl ⟨Nat.le_of_ble_eq_true rfl, Nat.le_of_ble_eq_true rfl, Nat.le_of_ble_eq_true rfl, Nat.le_of_ble_eq_true rfl, Nat.le_of_ble_eq_true rfl⟩ dX6_count_166 (fun r166 σ166 => ?_)
          refine j_iconst (v := 3) 3 C dX6_count_169 (by decide) ?_
          refine j_ine 177 C dX6_count_170 (by decide) ?_ ?_
          · refine j_iconst (v := 0) 0 C dX6_count_177 (by decide) ?_
            refine j_goto 252 C dX6_count_178 (by decide) ?_
            exact j_sub [0, 1, 3] rfl (wJ252 x3 0 x2 σ166)
          · refine j_iconst (v := 1) 1 C dX6_count_173 (by decide) ?_
            refine j_goto 252 C dX6_count_174 (by decide) ?_
            exact j_sub [0, 1, 3] rfl (wJ252 x3 1 x2 σ166)
  have wL43 : ∀ (K43 : Int32 → Hp → Option (Int32 × Hp)), (∀ (x2 : Int32) (σ : Hp), J E 7 p l e rm6_count s m args below meth c (QI E below args s rm6_count.cells rm6_count.slots) (K43 x2 σ) 92 [(0, .ref (ea E 84)), (1, .int x1), (2, .int x2)] [] σ 0 0) → ∀ (n43 : Nat) (x2 : Int32) (x3 : Int32) (σ : Hp), J E 7 p l e rm6_count s m args below meth c (QI E below args s rm6_count.cells rm6_count.slots) (f6_count_L43 N x1 K43 n43 x2 x3 σ) 43 [(0, .ref (ea E 84)), (1, .int x1), (2, .int x2), (3, .int x3)] [] σ 0 0 := by
    intro K43 HK43 n43
    induction n43 with
    | zero => intro x2 x3 σ; exact j_none
    | succ n43 ih43 =>
      intro x2 x3 σ
      show J E 7 p l e rm6_count s m args below meth c (QI E below args s rm6_count.cells rm6_count.slots) (f6_count_B43 N x1 K43 (f6_count_L43 N x1 K43 n43) x2 x3 σ) 43 [(0, .ref (ea E 84)), (1, .int x1), (2, .int x2), (3, .int x3)] [] σ 0 0
      unfold f6_count_B43
      refine j_iload_n 3 C dX6_count_43 rfl rfl ?_
      refine j_bipush (v := 8) 8 C dX6_count_44 (by decide) ?_
      refine j_ige 92 C dX6_count_46 (by decide) ?_ ?_
      · exact j_sub [0, 1, 2] rfl (HK43 x2 σ)
      · refine j_iload_n 1 C dX6_count_49 rfl rfl ?_
        refine j_bipush (v := 7) 7 C dX6_count_50 (by decide) ?_
        refine j_ine 92 C dX6_count_52 (by decide) ?_ ?_
        · exact j_sub [0, 1, 2] rfl (HK43 x2 σ)
        · refine j_iload_n 2 C dX6_count_55 rfl rfl ?_
          refine j_aload_n 0 C dX6_count_56 rfl rfl ?_
          refine j_iload_n 3 C dX6_count_57 rfl rfl ?_
          refine j_iconst (v := 0) 0 C dX6_count_58 (by decide) ?_
          refine j_callVI [.int x3, .int 0] (con6_ad N x3 0) C mi6_ad mv6_ad lk6_96 (by decide) (ct_84 E _) rfl rfl rfl ⟨Nat.le_of_ble_eq_true rfl, Nat.le_of_ble_eq_true rfl, Nat.le_of_ble_eq_true rfl, Nat.le_of_ble_eq_true rfl, Nat.le_of_ble_eq_true rfl⟩ dX6_count_59 (fun r59 σ59 => ?_)
          refine j_aload_n 0 C dX6_count_62 rfl rfl ?_
          refine j_iload_n 3 C dX6_count_63 rfl rfl ?_
          refine j_bipush (v := 6) 6 C dX6_count_64 (by decide) ?_
          refine j_callVI [.int x3, .int 6] (con6_ad N x3 6) C mi6_ad mv6_ad lk6_96 (by decide) (ct_84 E _) rfl rfl rfl ⟨Nat.le_of_ble_eq_true rfl, Nat.le_of_ble_eq_true rfl, Nat.le_of_ble_eq_true rfl, Nat.le_of_ble_eq_true rfl, Nat.le_of_ble_eq_true rfl⟩ dX6_count_66 (fun r66 σ66 => ?_)
          refine j_imul C dX6_count_69 ?_
          refine j_aload_n 0 C dX6_count_70 rfl rfl ?_
          refine j_iload_n 3 C dX6_count_71 rfl rfl ?_
          refine j_iconst (v := 4) 4 C dX6_count_72 (by decide) ?_
          refine j_callVI [.int x3, .int 4] (con6_ad N x3 4) C mi6_ad mv6_ad lk6_96 (by decide) (ct_84 E _) rfl rfl rfl ⟨Nat.le_of_ble_eq_true rfl, Nat.le_of_ble_eq_true rfl, Nat.le_of_ble_eq_true rfl, Nat.le_of_ble_eq_true rfl, Nat.le_of_ble_eq_true rfl⟩ dX6_count_73 (fun r73 σ73 => ?_)
          refine j_imul C dX6_count_76 ?_
          refine j_aload_n 0 C dX6_count_77 rfl rfl ?_
          refine j_iload_n 3 C dX6_count_78 rfl rfl ?_
          refine j_iconst (v := 5) 5 C dX6_count_79 (by decide) ?_
          refine j_callVI [.int x3, .int 5] (con6_ad N x3 5) C mi6_ad mv6_ad lk6_96 (by decide) (ct_84 E _) rfl rfl rfl ⟨Nat.le_of_ble_eq_true rfl, Nat.le_of_ble_eq_true rfl, Nat.le_of_ble_eq_true rfl, Nat.le_of_ble_eq_true rfl, Nat.le_of_ble_eq_true rfl⟩ dX6_count_80 (fun r80 σ80 => ?_)
          refine j_imul C dX6_count_83 ?_
          refine j_iadd C dX6_count_84 ?_
          refine j_istore_n [(2, .int (x2 + (((r59 * r66) * r73) * r80))), (0, .ref (ea E 84)), (1, .int x1), (3, .int x3)] C dX6_count_85 rfl (by decide) rfl ?_
          refine j_iinc 3 1 [(3, .int (x3 + 1)), (2, .int (x2 + (((r59 * r66) * r73) * r80))), (0, .ref (ea E 84)), (1, .int x1)] C dX6_count_86 rfl rfl (by decide) rfl ?_
          refine j_goto 43 C dX6_count_89 (by decide) ?_
          exact j_sub [2, 3, 1, 0] rfl (ih43 (x2 + (((r59 * r66) * r73) * r80)) (x3 + 1) σ80)
  have wJ35 : ∀ (y0 : Int32) (σ : Hp), J E 7 p l e rm6_count s m args below meth c (QI E below args s rm6_count.cells rm6_count.slots) (f6_count_J35 N x1 y0 σ) 35 [] [.int y0, .ref (ea E 84)] σ 0 0 := by
    intro y0 σ
    unfold f6_count_J35
    refine j_callVI [.int y0] (con6_many N y0) C mi6_many mv6_many lk6_144 (by decide) (ct_84 E _) rfl rfl rfl ⟨Nat.le_of_ble_eq_true rfl, Nat.le_of_ble_eq_true rfl, Nat.le_of_ble_eq_true rfl, Nat.le_of_ble_eq_true rfl, Nat.le_of_ble_eq_true rfl⟩ dX6_count_35 (fun r35 σ35 => ?_)
    exact j_iret C hr hlocks rfl dX6_count_38 (Nat.le_of_ble_eq_true rfl) (Nat.le_of_ble_eq_true rfl)
  unfold f6_count
  refine j_aload_n 0 C dX6_count_0 rfl rfl ?_
  refine j_callVV [] (con6_asks N) C mi6_asks mv6_asks lk6_198 (by decide) (ct_84 E _) rfl rfl rfl ⟨Nat.le_of_ble_eq_true rfl, Nat.le_of_ble_eq_true rfl, Nat.le_of_ble_eq_true rfl, Nat.le_of_ble_eq_true rfl, Nat.le_of_ble_eq_true rfl⟩ dX6_count_1 (fun σ1 => ?_)
  refine j_iload_n 1 C dX6_count_4 rfl rfl ?_
  refine j_iconst (v := 0) 0 C dX6_count_5 (by decide) ?_
  refine j_bipush (v := 7) 7 C dX6_count_6 (by decide) ?_
  refine j_callSI [.int x1, .int 0, .int 7] (con6_in N x1 0 7) C mi6_in ms6_in lk6_88 rfl rfl ⟨Nat.le_of_ble_eq_true rfl, Nat.le_of_ble_eq_true rfl, Nat.le_of_ble_eq_true rfl, Nat.le_of_ble_eq_true rfl, Nat.le_of_ble_eq_true rfl⟩ dX6_count_8 (fun r8 σ8 => ?_)
  refine j_zne 20 C dX6_count_11 (by decide) ?_ ?_
  · refine j_iload_n 1 C dX6_count_20 rfl rfl ?_
    refine j_iconst (v := 2) 2 C dX6_count_21 (by decide) ?_
    refine j_ige 39 C dX6_count_22 (by decide) ?_ ?_
    · refine j_iconst (v := 0) 0 C dX6_count_39 (by decide) ?_
      refine j_istore_n [(2, .int 0), (0, .ref (ea E 84)), (1, .int x1)] C dX6_count_40 rfl (by decide) rfl ?_
      refine j_iconst (v := 0) 0 C dX6_count_41 (by decide) ?_
      refine j_istore_n [(3, .int 0), (2, .int 0), (0, .ref (ea E 84)), (1, .int x1)] C dX6_count_42 rfl (by decide) rfl ?_
      refine j_sub [2, 3, 1, 0] rfl (wL43 _ (fun x2_43 σL43 => ?_) N 0 0 σ8)
      refine j_iconst (v := 0) 0 C dX6_count_92 (by decide) ?_
      refine j_istore_n [(3, .int 0), (0, .ref (ea E 84)), (1, .int x1), (2, .int x2_43)] C dX6_count_93 rfl (by decide) rfl ?_
      refine j_sub [1, 2, 3, 0] rfl (wL94 _ (fun x2_94 σL94 => ?_) N x2_43 0 σL43)
      refine j_iload_n 0 C dX6_count_260 rfl rfl ?_
      exact j_iret C hr hlocks rfl dX6_count_261 (Nat.le_of_ble_eq_true rfl) (Nat.le_of_ble_eq_true rfl)
    · refine j_aload_n 0 C dX6_count_25 rfl rfl ?_
      refine j_iload_n 1 C dX6_count_26 rfl rfl ?_
      refine j_zne 34 C dX6_count_27 (by decide) ?_ ?_
      · refine j_iconst (v := 0) 0 C dX6_count_34 (by decide) ?_
        exact j_sub [] rfl (wJ35 0 σ8)
      · refine j_iconst (v := 1) 1 C dX6_count_30 (by decide) ?_
        refine j_goto 35 C dX6_count_31 (by decide) ?_
        exact j_sub [] rfl (wJ35 1 σ8)
  · refine j_aload_n 0 C dX6_count_14 rfl rfl ?_
    refine j_iconst (v := 1) 1 C dX6_count_15 (by decide) ?_
    refine j_callVI [.int 1] (con6_fails N 1) C mi6_fails mv6_fails lk6_99 (by decide) (ct_84 E _) rfl rfl rfl ⟨Nat.le_of_ble_eq_true rfl, Nat.le_of_ble_eq_true rfl, Nat.le_of_ble_eq_true rfl, Nat.le_of_ble_eq_true rfl, Nat.le_of_ble_eq_true rfl⟩ dX6_count_16 (fun r16 σ16 => ?_)
    exact j_iret C hr hlocks rfl dX6_count_19 (Nat.le_of_ble_eq_true rfl) (Nat.le_of_ble_eq_true rfl)
set_option maxHeartbeats 4000000 in
set_option maxRecDepth 100000 in
theorem con6_cellCount (N : Nat) (x1 : Int32) (x2 : Int32) : ConI yX6_cellCount cX6_cellCount 5 .int rm6_cellCount (fun E => [.ref (ea E 84), .int x1, .int x2]) (f6_cellCount N x1 x2) := by
  refine conI_of (L := fun E => [(0, .ref (ea E 84)), (1, .int x1), (2, .int x2)]) (by decide) (fun _ => Nat.le_of_ble_eq_true rfl) (fun _ => rfl) ?_
  intro l E σ p e s m args below meth c C hr hlocks
  have wL40 : ∀ (K40 : Int32 → Hp → Option (Int32 × Hp)), (∀ (x3 : Int32) (σ : Hp), J E 5 p l e rm6_cellCount s m args below meth c (QI E below args s rm6_cellCount.cells rm6_cellCount.slots) (K40 x3 σ) 77 [(3, .int x3)] [] σ 0 0) → ∀ (n40 : Nat) (x3 : Int32) (x4 : Int32) (σ : Hp), J E 5 p l e rm6_cellCount s m args below meth c (QI E below args s rm6_cellCount.cells rm6_cellCount.slots) (f6_cellCount_L40 N x1 x2 K40 n40 x3 x4 σ) 40 [(0, .ref (ea E 84)), (1, .int x1), (2, .int x2), (3, .int x3), (4, .int x4)] [] σ 0 0 := by
    intro K40 HK40 n40
    induction n40 with
    | zero => intro x3 x4 σ; exact j_none
    | succ n40 ih40 =>
      have wJ69 : ∀ (x4 : Int32) (y0 : Int32) (y1 : Int32) (σ : Hp), J E 5 p l e rm6_cellCount s m args below meth c (QI E below args s rm6_cellCount.cells rm6_cellCount.slots) (f6_cellCount_J69 N x1 x2 K40 (f6_cellCount_L40 N x1 x2 K40 n40) x4 y0 y1 σ) 69 [(0, .ref (ea E 84)), (1, .int x1), (2, .int x2), (4, .int x4)] [.int y0, .int y1] σ 0 0 := by
        intro x4 y0 y1 σ
        unfold f6_cellCount_J69
        refine j_iadd C dX6_cellCount_69 ?_
        refine j_istore_n [(3, .int (y1 + y0)), (0, .ref (ea E 84)), (1, .int x1), (2, .int x2), (4, .int x4)] C dX6_cellCount_70 rfl (by decide) rfl ?_
        refine j_iinc 4 1 [(4, .int (x4 + 1)), (3, .int (y1 + y0)), (0, .ref (ea E 84)), (1, .int x1), (2, .int x2)] C dX6_cellCount_71 rfl rfl (by decide) rfl ?_
        refine j_goto 40 C dX6_cellCount_74 (by decide) ?_
        exact j_sub [2, 3, 4, 1, 0] rfl (ih40 (y1 + y0) (x4 + 1) σ)
      intro x3 x4 σ
      show J E 5 p l e rm6_cellCount s m args below meth c (QI E below args s rm6_cellCount.cells rm6_cellCount.slots) (f6_cellCount_B40 N x1 x2 K40 (f6_cellCount_L40 N x1 x2 K40 n40) x3 x4 σ) 40 [(0, .ref (ea E 84)), (1, .int x1), (2, .int x2), (3, .int x3), (4, .int x4)] [] σ 0 0
      unfold f6_cellCount_B40
      refine j_iload 4 C dX6_cellCount_40 rfl ?_
      refine j_bipush (v := 120) 120 C dX6_cellCount_42 (by decide) ?_
      refine j_ige 77 C dX6_cellCount_44 (by decide) ?_ ?_
      · exact j_sub [3] rfl (HK40 x3 σ)
      · refine j_iload_n 3 C dX6_cellCount_47 rfl rfl ?_
        refine j_aload_n 0 C dX6_cellCount_48 rfl rfl ?_
        refine j_get 7 C fl6_33 (by decide) (ct_84 E _) rfl dX6_cellCount_49 ?_
        refine j_bipush (v := 120) 120 C dX6_cellCount_52 (by decide) ?_
        refine j_iload_n 1 C dX6_cellCount_54 rfl rfl ?_
        refine j_imul C dX6_cellCount_55 ?_
        refine j_iload 4 C dX6_cellCount_56 rfl ?_
        refine j_iadd C dX6_cellCount_58 ?_
        refine j_iald C (by decide) (ct_89 E _) dX6_cellCount_59 ?_
        refine j_iload_n 2 C dX6_cellCount_60 rfl rfl ?_
        refine j_ine 68 C dX6_cellCount_61 (by decide) ?_ ?_
        · refine j_iconst (v := 0) 0 C dX6_cellCount_68 (by decide) ?_
          exact j_sub [0, 1, 2, 4] rfl (wJ69 x4 0 x3 σ)
        · refine j_iconst (v := 1) 1 C dX6_cellCount_64 (by decide) ?_
          refine j_goto 69 C dX6_cellCount_65 (by decide) ?_
          exact j_sub [0, 1, 2, 4] rfl (wJ69 x4 1 x3 σ)
  unfold f6_cellCount
  refine j_aload_n 0 C dX6_cellCount_0 rfl rfl ?_
  refine j_callVV [] (con6_asks N) C mi6_asks mv6_asks lk6_198 (by decide) (ct_84 E _) rfl rfl rfl ⟨Nat.le_of_ble_eq_true rfl, Nat.le_of_ble_eq_true rfl, Nat.le_of_ble_eq_true rfl, Nat.le_of_ble_eq_true rfl, Nat.le_of_ble_eq_true rfl⟩ dX6_cellCount_1 (fun σ1 => ?_)
  refine j_iload_n 1 C dX6_cellCount_4 rfl rfl ?_
  refine j_iconst (v := 0) 0 C dX6_cellCount_5 (by decide) ?_
  refine j_iconst (v := 3) 3 C dX6_cellCount_6 (by decide) ?_
  refine j_callSI [.int x1, .int 0, .int 3] (con6_in N x1 0 3) C mi6_in ms6_in lk6_88 rfl rfl ⟨Nat.le_of_ble_eq_true rfl, Nat.le_of_ble_eq_true rfl, Nat.le_of_ble_eq_true rfl, Nat.le_of_ble_eq_true rfl, Nat.le_of_ble_eq_true rfl⟩ dX6_cellCount_7 (fun r7 σ7 => ?_)
  refine j_zne 19 C dX6_cellCount_10 (by decide) ?_ ?_
  · refine j_iload_n 2 C dX6_cellCount_19 rfl rfl ?_
    refine j_iconst (v := 0) 0 C dX6_cellCount_20 (by decide) ?_
    refine j_bipush (v := 8) 8 C dX6_cellCount_21 (by decide) ?_
    refine j_callSI [.int x2, .int 0, .int 8] (con6_in N x2 0 8) C mi6_in ms6_in lk6_88 rfl rfl ⟨Nat.le_of_ble_eq_true rfl, Nat.le_of_ble_eq_true rfl, Nat.le_of_ble_eq_true rfl, Nat.le_of_ble_eq_true rfl, Nat.le_of_ble_eq_true rfl⟩ dX6_cellCount_23 (fun r23 σ23 => ?_)
    refine j_zne 35 C dX6_cellCount_26 (by decide) ?_ ?_
    · refine j_iconst (v := 0) 0 C dX6_cellCount_35 (by decide) ?_
      refine j_istore_n [(3, .int 0), (0, .ref (ea E 84)), (1, .int x1), (2, .int x2)] C dX6_cellCount_36 rfl (by decide) rfl ?_
      refine j_iconst (v := 0) 0 C dX6_cellCount_37 (by decide) ?_
      refine j_istore [(4, .int 0), (3, .int 0), (0, .ref (ea E 84)), (1, .int x1), (2, .int x2)] C dX6_cellCount_38 (by decide) rfl ?_
      refine j_sub [2, 3, 4, 1, 0] rfl (wL40 _ (fun x3_40 σL40 => ?_) N 0 0 σ23)
      refine j_iload_n 0 C dX6_cellCount_77 rfl rfl ?_
      exact j_iret C hr hlocks rfl dX6_cellCount_78 (Nat.le_of_ble_eq_true rfl) (Nat.le_of_ble_eq_true rfl)
    · refine j_aload_n 0 C dX6_cellCount_29 rfl rfl ?_
      refine j_iconst (v := 2) 2 C dX6_cellCount_30 (by decide) ?_
      refine j_callVI [.int 2] (con6_fails N 2) C mi6_fails mv6_fails lk6_99 (by decide) (ct_84 E _) rfl rfl rfl ⟨Nat.le_of_ble_eq_true rfl, Nat.le_of_ble_eq_true rfl, Nat.le_of_ble_eq_true rfl, Nat.le_of_ble_eq_true rfl, Nat.le_of_ble_eq_true rfl⟩ dX6_cellCount_31 (fun r31 σ31 => ?_)
      exact j_iret C hr hlocks rfl dX6_cellCount_34 (Nat.le_of_ble_eq_true rfl) (Nat.le_of_ble_eq_true rfl)
  · refine j_aload_n 0 C dX6_cellCount_13 rfl rfl ?_
    refine j_iconst (v := 1) 1 C dX6_cellCount_14 (by decide) ?_
    refine j_callVI [.int 1] (con6_fails N 1) C mi6_fails mv6_fails lk6_99 (by decide) (ct_84 E _) rfl rfl rfl ⟨Nat.le_of_ble_eq_true rfl, Nat.le_of_ble_eq_true rfl, Nat.le_of_ble_eq_true rfl, Nat.le_of_ble_eq_true rfl, Nat.le_of_ble_eq_true rfl⟩ dX6_cellCount_15 (fun r15 σ15 => ?_)
    exact j_iret C hr hlocks rfl dX6_cellCount_18 (Nat.le_of_ble_eq_true rfl) (Nat.le_of_ble_eq_true rfl)
set_option maxHeartbeats 4000000 in
set_option maxRecDepth 100000 in
theorem con6_filledIn (N : Nat) (x1 : Int32) (x2 : Int32) : ConI yX6_filledIn cX6_filledIn 6 .int rm6_filledIn (fun E => [.ref (ea E 84), .int x1, .int x2]) (f6_filledIn N x1 x2) := by
  refine conI_of (L := fun E => [(0, .ref (ea E 84)), (1, .int x1), (2, .int x2)]) (by decide) (fun _ => Nat.le_of_ble_eq_true rfl) (fun _ => rfl) ?_
  intro l E σ p e s m args below meth c C hr hlocks
  have wL5 : ∀ (K5 : Int32 → Hp → Option (Int32 × Hp)), (∀ (x3 : Int32) (σ : Hp), J E 6 p l e rm6_filledIn s m args below meth c (QI E below args s rm6_filledIn.cells rm6_filledIn.slots) (K5 x3 σ) 52 [(3, .int x3)] [] σ 0 0) → ∀ (n5 : Nat) (x3 : Int32) (x4 : Int32) (σ : Hp), J E 6 p l e rm6_filledIn s m args below meth c (QI E below args s rm6_filledIn.cells rm6_filledIn.slots) (f6_filledIn_L5 N x1 x2 K5 n5 x3 x4 σ) 5 [(0, .ref (ea E 84)), (1, .int x1), (2, .int x2), (3, .int x3), (4, .int x4)] [] σ 0 0 := by
    intro K5 HK5 n5
    induction n5 with
    | zero => intro x3 x4 σ; exact j_none
    | succ n5 ih5 =>
      have wJ44 : ∀ (x4 : Int32) (y0 : Int32) (y1 : Int32) (σ : Hp), J E 6 p l e rm6_filledIn s m args below meth c (QI E below args s rm6_filledIn.cells rm6_filledIn.slots) (f6_filledIn_J44 N x1 x2 K5 (f6_filledIn_L5 N x1 x2 K5 n5) x4 y0 y1 σ) 44 [(0, .ref (ea E 84)), (1, .int x1), (2, .int x2), (4, .int x4)] [.int y0, .int y1] σ 0 0 := by
        intro x4 y0 y1 σ
        unfold f6_filledIn_J44
        refine j_iadd C dX6_filledIn_44 ?_
        refine j_istore_n [(3, .int (y1 + y0)), (0, .ref (ea E 84)), (1, .int x1), (2, .int x2), (4, .int x4)] C dX6_filledIn_45 rfl (by decide) rfl ?_
        refine j_iinc 4 1 [(4, .int (x4 + 1)), (3, .int (y1 + y0)), (0, .ref (ea E 84)), (1, .int x1), (2, .int x2)] C dX6_filledIn_46 rfl rfl (by decide) rfl ?_
        refine j_goto 5 C dX6_filledIn_49 (by decide) ?_
        exact j_sub [2, 3, 4, 1, 0] rfl (ih5 (y1 + y0) (x4 + 1) σ)
      have wJ43 : ∀ (x4 : Int32) (y0 : Int32) (σ : Hp), J E 6 p l e rm6_filledIn s m args below meth c (QI E below args s rm6_filledIn.cells rm6_filledIn.slots) (f6_filledIn_J43 N x1 x2 K5 (f6_filledIn_L5 N x1 x2 K5 n5) x4 y0 σ) 43 [(0, .ref (ea E 84)), (1, .int x1), (2, .int x2), (4, .int x4)] [.int y0] σ 0 0 := by
        intro x4 y0 σ
        unfold f6_filledIn_J43
        refine j_iconst (v := 0) 0 C dX6_filledIn_43 (by decide) ?_
        exact j_sub [0, 1, 2, 3] rfl (wJ44 x4 0 y0 σ)
      intro x3 x4 σ
      show J E 6 p l e rm6_filledIn s m args below meth c (QI E below args s rm6_filledIn.cells rm6_filledIn.slots) (f6_filledIn_B5 N x1 x2 K5 (f6_filledIn_L5 N x1 x2 K5 n5) x3 x4 σ) 5 [(0, .ref (ea E 84)), (1, .int x1), (2, .int x2), (3, .int x3), (4, .int x4)] [] σ 0 0
      unfold f6_filledIn_B5
      refine j_iload 4 C dX6_filledIn_5 rfl ?_
      refine j_bipush (v := 24) 24 C dX6_filledIn_7 (by decide) ?_
      refine j_ige 52 C dX6_filledIn_9 (by decide) ?_ ?_
      · exact j_sub [3] rfl (HK5 x3 σ)
      · refine j_aload_n 0 C dX6_filledIn_12 rfl rfl ?_
        refine j_get 7 C fl6_33 (by decide) (ct_84 E _) rfl dX6_filledIn_13 ?_
        refine j_iload_n 1 C dX6_filledIn_16 rfl rfl ?_
        refine j_iload_n 2 C dX6_filledIn_17 rfl rfl ?_
        refine j_iload 4 C dX6_filledIn_18 rfl ?_
        refine j_callSI [.int x1, .int x2, .int x4] (con6_at N x1 x2 x4) C mi6_at ms6_at lk6_151 rfl rfl ⟨Nat.le_of_ble_eq_true rfl, Nat.le_of_ble_eq_true rfl, Nat.le_of_ble_eq_true rfl, Nat.le_of_ble_eq_true rfl, Nat.le_of_ble_eq_true rfl⟩ dX6_filledIn_20 (fun r20 σ20 => ?_)
        refine j_iald C (by decide) (ct_89 E _) dX6_filledIn_23 ?_
        refine j_istore [(5, .int (σ20 89 r20.toNatClampNeg)), (0, .ref (ea E 84)), (1, .int x1), (2, .int x2), (3, .int x3), (4, .int x4)] C dX6_filledIn_24 (by decide) rfl ?_
        refine j_iload_n 4 C dX6_filledIn_26 rfl rfl ?_
        refine j_iload 0 C dX6_filledIn_27 rfl ?_
        refine j_zeq 43 C dX6_filledIn_29 (by decide) ?_ ?_
        · exact j_sub [1, 2, 3, 5] rfl (wJ43 x4 x3 σ20)
        · refine j_iload 0 C dX6_filledIn_32 rfl ?_
          refine j_bipush (v := 8) 8 C dX6_filledIn_34 (by decide) ?_
          refine j_ieq 43 C dX6_filledIn_36 (by decide) ?_ ?_
          · exact j_sub [1, 2, 3, 5] rfl (wJ43 x4 x3 σ20)
          · refine j_iconst (v := 1) 1 C dX6_filledIn_39 (by decide) ?_
            refine j_goto 44 C dX6_filledIn_40 (by decide) ?_
            exact j_sub [1, 2, 3, 5] rfl (wJ44 x4 1 x3 σ20)
  unfold f6_filledIn
  refine j_iconst (v := 0) 0 C dX6_filledIn_0 (by decide) ?_
  refine j_istore_n [(3, .int 0), (0, .ref (ea E 84)), (1, .int x1), (2, .int x2)] C dX6_filledIn_1 rfl (by decide) rfl ?_
  refine j_iconst (v := 0) 0 C dX6_filledIn_2 (by decide) ?_
  refine j_istore [(4, .int 0), (3, .int 0), (0, .ref (ea E 84)), (1, .int x1), (2, .int x2)] C dX6_filledIn_3 (by decide) rfl ?_
  refine j_sub [2, 3, 4, 1, 0] rfl (wL5 _ (fun x3_5 σL5 => ?_) N 0 0 σ)
  refine j_iload_n 0 C dX6_filledIn_52 rfl rfl ?_
  exact j_iret C hr hlocks rfl dX6_filledIn_53 (Nat.le_of_ble_eq_true rfl) (Nat.le_of_ble_eq_true rfl)
set_option maxHeartbeats 4000000 in
set_option maxRecDepth 100000 in
theorem con6_isSound (N : Nat) : ConI yX6_isSound cX6_isSound 5 .boolean rm6_isSound (fun E => [.ref (ea E 84)]) (f6_isSound N) := by
  refine conI_of (L := fun E => [(0, .ref (ea E 84))]) (by decide) (fun _ => Nat.le_of_ble_eq_true rfl) (fun _ => rfl) ?_
  intro l E σ p e s m args below meth c C hr hlocks
  have wL79 : ∀ (x1 : Int32) (K79 : Int32 → Hp → Option (Int32 × Hp)), (∀ (x2 : Int32) (σ : Hp), J E 5 p l e rm6_isSound s m args below meth c (QI E below args s rm6_isSound.cells rm6_isSound.slots) (K79 x2 σ) 164 [(1, .int x1), (2, .int x2)] [] σ 0 0) → ∀ (n79 : Nat) (x2 : Int32) (x3 : Int32) (σ : Hp), J E 5 p l e rm6_isSound s m args below meth c (QI E below args s rm6_isSound.cells rm6_isSound.slots) (f6_isSound_L79 N x1 K79 n79 x2 x3 σ) 79 [(0, .ref (ea E 84)), (1, .int x1), (2, .int x2), (3, .int x3)] [] σ 0 0 := by
    intro x1 K79 HK79 n79
    induction n79 with
    | zero => intro x2 x3 σ; exact j_none
    | succ n79 ih79 =>
      have wL90 : ∀ (x3 : Int32) (K90 : Int32 → Hp → Option (Int32 × Hp)), (∀ (x2 : Int32) (σ : Hp), J E 5 p l e rm6_isSound s m args below meth c (QI E below args s rm6_isSound.cells rm6_isSound.slots) (K90 x2 σ) 158 [(0, .ref (ea E 84)), (1, .int x1), (2, .int x2), (3, .int x3)] [] σ 0 0) → ∀ (n90 : Nat) (x2 : Int32) (x4 : Int32) (σ : Hp), J E 5 p l e rm6_isSound s m args below meth c (QI E below args s rm6_isSound.cells rm6_isSound.slots) (f6_isSound_L90 N x1 K79 (f6_isSound_L79 N x1 K79 n79) x3 K90 n90 x2 x4 σ) 90 [(0, .ref (ea E 84)), (1, .int x1), (2, .int x2), (3, .int x3), (4, .int x4)] [] σ 0 0 := by
        intro x3 K90 HK90 n90
        induction n90 with
        | zero => intro x2 x4 σ; exact j_none
        | succ n90 ih90 =>
          intro x2 x4 σ
          show J E 5 p l e rm6_isSound s m args below meth c (QI E below args s rm6_isSound.cells rm6_isSound.slots) (f6_isSound_B90 N x1 K79 (f6_isSound_L79 N x1 K79 n79) x3 K90 (f6_isSound_L90 N x1 K79 (f6_isSound_L79 N x1 K79 n79) x3 K90 n90) x2 x4 σ) 90 [(0, .ref (ea E 84)), (1, .int x1), (2, .int x2), (3, .int x3), (4, .int x4)] [] σ 0 0
          unfold f6_isSound_B90
          refine j_iload 4 C dX6_isSound_90 rfl ?_
          refine j_aload_n 0 C dX6_isSound_92 rfl rfl ?_
          refine j_get 11 C fl6_45 (by decide) (ct_84 E _) rfl dX6_isSound_93 ?_
          refine j_aload_n 0 C dX6_isSound_96 rfl rfl ?_
          refine j_get 9 C fl6_39 (by decide) (ct_84 E _) rfl dX6_isSound_97 ?_
          refine j_iload_n 3 C dX6_isSound_100 rfl rfl ?_
          refine j_iald C (by decide) (ct_91 E _) dX6_isSound_101 ?_
          refine j_iald C (by decide) (ct_93 E _) dX6_isSound_102 ?_
          refine j_ige 158 C dX6_isSound_103 (by decide) ?_ ?_
          · exact j_sub [0, 1, 2, 3] rfl (HK90 x2 σ)
          · refine j_iload_n 2 C dX6_isSound_106 rfl rfl ?_
            refine j_aload_n 0 C dX6_isSound_107 rfl rfl ?_
            refine j_get 12 C fl6_48 (by decide) (ct_84 E _) rfl dX6_isSound_108 ?_
            refine j_bipush (v := 8) 8 C dX6_isSound_111 (by decide) ?_
            refine j_iconst (v := 4) 4 C dX6_isSound_113 (by decide) ?_
            refine j_aload_n 0 C dX6_isSound_114 rfl rfl ?_
            refine j_get 9 C fl6_39 (by decide) (ct_84 E _) rfl dX6_isSound_115 ?_
            refine j_iload_n 3 C dX6_isSound_118 rfl rfl ?_
            refine j_iald C (by decide) (ct_91 E _) dX6_isSound_119 ?_
            refine j_imul C dX6_isSound_120 ?_
            refine j_iload 4 C dX6_isSound_121 rfl ?_
            refine j_iadd C dX6_isSound_123 ?_
            refine j_imul C dX6_isSound_124 ?_
            refine j_iconst (v := 3) 3 C dX6_isSound_125 (by decide) ?_
            refine j_iadd C dX6_isSound_126 ?_
            refine j_iald C (by decide) (ct_94 E _) dX6_isSound_127 ?_
            refine j_aload_n 0 C dX6_isSound_128 rfl rfl ?_
            refine j_get 12 C fl6_48 (by decide) (ct_84 E _) rfl dX6_isSound_129 ?_
            refine j_bipush (v := 8) 8 C dX6_isSound_132 (by decide) ?_
            refine j_iconst (v := 4) 4 C dX6_isSound_134 (by decide) ?_
            refine j_aload_n 0 C dX6_isSound_135 rfl rfl ?_
            refine j_get 9 C fl6_39 (by decide) (ct_84 E _) rfl dX6_isSound_136 ?_
            refine j_iload_n 3 C dX6_isSound_139 rfl rfl ?_
            refine j_iald C (by decide) (ct_91 E _) dX6_isSound_140 ?_
            refine j_imul C dX6_isSound_141 ?_
            refine j_iload 4 C dX6_isSound_142 rfl ?_
            refine j_iadd C dX6_isSound_144 ?_
            refine j_imul C dX6_isSound_145 ?_
            refine j_iconst (v := 4) 4 C dX6_isSound_146 (by decide) ?_
            refine j_iadd C dX6_isSound_147 ?_
            refine j_iald C (by decide) (ct_94 E _) dX6_isSound_148 ?_
            refine j_imul C dX6_isSound_149 ?_
            refine j_iadd C dX6_isSound_150 ?_
            refine j_istore_n [(2, .int (x2 + ((σ 94 ((8 * ((4 * (σ 91 x3.toNatClampNeg)) + x4)) + 3).toNatClampNeg) * (σ 94 ((8 * ((4 * (σ 91 x3.toNatClampNeg)) + x4)) + 4).toNatClampNeg)))), (0, .ref (ea E 84)), (1, .int x1), (3, .int x3), (4, .int x4)] C dX6_isSound_151 rfl (by decide) rfl ?_
            refine j_iinc 4 1 [(4, .int (x4 + 1)), (2, .int (x2 + ((σ 94 ((8 * ((4 * (σ 91 x3.toNatClampNeg)) + x4)) + 3).toNatClampNeg) * (σ 94 ((8 * ((4 * (σ 91 x3.toNatClampNeg)) + x4)) + 4).toNatClampNeg)))), (0, .ref (ea E 84)), (1, .int x1), (3, .int x3)] C dX6_isSound_152 rfl rfl (by decide) rfl ?_
            refine j_goto 90 C dX6_isSound_155 (by decide) ?_
            exact j_sub [2, 3, 1, 4, 0] rfl (ih90 (x2 + ((σ 94 ((8 * ((4 * (σ 91 x3.toNatClampNeg)) + x4)) + 3).toNatClampNeg) * (σ 94 ((8 * ((4 * (σ 91 x3.toNatClampNeg)) + x4)) + 4).toNatClampNeg))) (x4 + 1) σ)
      intro x2 x3 σ
      show J E 5 p l e rm6_isSound s m args below meth c (QI E below args s rm6_isSound.cells rm6_isSound.slots) (f6_isSound_B79 N x1 K79 (f6_isSound_L79 N x1 K79 n79) x2 x3 σ) 79 [(0, .ref (ea E 84)), (1, .int x1), (2, .int x2), (3, .int x3)] [] σ 0 0
      unfold f6_isSound_B79
      refine j_iload_n 3 C dX6_isSound_79 rfl rfl ?_
      refine j_aload_n 0 C dX6_isSound_80 rfl rfl ?_
      refine j_get 14 C fl6_54 (by decide) (ct_84 E _) rfl dX6_isSound_81 ?_
      refine j_ige 164 C dX6_isSound_84 (by decide) ?_ ?_
      · exact j_sub [1, 2] rfl (HK79 x2 σ)
      · refine j_iconst (v := 0) 0 C dX6_isSound_87 (by decide) ?_
        refine j_istore [(4, .int 0), (0, .ref (ea E 84)), (1, .int x1), (2, .int x2), (3, .int x3)] C dX6_isSound_88 (by decide) rfl ?_
        refine j_sub [1, 2, 3, 4, 0] rfl (wL90 x3 _ (fun x2_90 σL90 => ?_) N x2 0 σ)
        refine j_iinc 3 1 [(3, .int (x3 + 1)), (0, .ref (ea E 84)), (1, .int x1), (2, .int x2_90)] C dX6_isSound_158 rfl rfl (by decide) rfl ?_
        refine j_goto 79 C dX6_isSound_161 (by decide) ?_
        exact j_sub [1, 2, 3, 0] rfl (ih79 x2_90 (x3 + 1) σL90)
  have wL42 : ∀ (x1 : Int32) (K42 : Int32 → Hp → Option (Int32 × Hp)), (∀ (x2 : Int32) (σ : Hp), J E 5 p l e rm6_isSound s m args below meth c (QI E below args s rm6_isSound.cells rm6_isSound.slots) (K42 x2 σ) 77 [(0, .ref (ea E 84)), (1, .int x1), (2, .int x2)] [] σ 0 0) → ∀ (n42 : Nat) (x2 : Int32) (x3 : Int32) (σ : Hp), J E 5 p l e rm6_isSound s m args below meth c (QI E below args s rm6_isSound.cells rm6_isSound.slots) (f6_isSound_L42 N x1 K42 n42 x2 x3 σ) 42 [(0, .ref (ea E 84)), (1, .int x1), (2, .int x2), (3, .int x3)] [] σ 0 0 := by
    intro x1 K42 HK42 n42
    induction n42 with
    | zero => intro x2 x3 σ; exact j_none
    | succ n42 ih42 =>
      intro x2 x3 σ
      show J E 5 p l e rm6_isSound s m args below meth c (QI E below args s rm6_isSound.cells rm6_isSound.slots) (f6_isSound_B42 N x1 K42 (f6_isSound_L42 N x1 K42 n42) x2 x3 σ) 42 [(0, .ref (ea E 84)), (1, .int x1), (2, .int x2), (3, .int x3)] [] σ 0 0
      unfold f6_isSound_B42
      refine j_iload_n 3 C dX6_isSound_42 rfl rfl ?_
      refine j_bipush (v := 8) 8 C dX6_isSound_43 (by decide) ?_
      refine j_ige 77 C dX6_isSound_45 (by decide) ?_ ?_
      · exact j_sub [0, 1, 2] rfl (HK42 x2 σ)
      · refine j_iload_n 2 C dX6_isSound_48 rfl rfl ?_
        refine j_aload_n 0 C dX6_isSound_49 rfl rfl ?_
        refine j_iload_n 3 C dX6_isSound_50 rfl rfl ?_
        refine j_iconst (v := 0) 0 C dX6_isSound_51 (by decide) ?_
        refine j_callVI [.int x3, .int 0] (con6_ad N x3 0) C mi6_ad mv6_ad lk6_96 (by decide) (ct_84 E _) rfl rfl rfl ⟨Nat.le_of_ble_eq_true rfl, Nat.le_of_ble_eq_true rfl, Nat.le_of_ble_eq_true rfl, Nat.le_of_ble_eq_true rfl, Nat.le_of_ble_eq_true rfl⟩ dX6_isSound_52 (fun r52 σ52 => ?_)
        refine j_aload_n 0 C dX6_isSound_55 rfl rfl ?_
        refine j_iload_n 3 C dX6_isSound_56 rfl rfl ?_
        refine j_iconst (v := 4) 4 C dX6_isSound_57 (by decide) ?_
        refine j_callVI [.int x3, .int 4] (con6_ad N x3 4) C mi6_ad mv6_ad lk6_96 (by decide) (ct_84 E _) rfl rfl rfl ⟨Nat.le_of_ble_eq_true rfl, Nat.le_of_ble_eq_true rfl, Nat.le_of_ble_eq_true rfl, Nat.le_of_ble_eq_true rfl, Nat.le_of_ble_eq_true rfl⟩ dX6_isSound_58 (fun r58 σ58 => ?_)
        refine j_imul C dX6_isSound_61 ?_
        refine j_aload_n 0 C dX6_isSound_62 rfl rfl ?_
        refine j_iload_n 3 C dX6_isSound_63 rfl rfl ?_
        refine j_iconst (v := 5) 5 C dX6_isSound_64 (by decide) ?_
        refine j_callVI [.int x3, .int 5] (con6_ad N x3 5) C mi6_ad mv6_ad lk6_96 (by decide) (ct_84 E _) rfl rfl rfl ⟨Nat.le_of_ble_eq_true rfl, Nat.le_of_ble_eq_true rfl, Nat.le_of_ble_eq_true rfl, Nat.le_of_ble_eq_true rfl, Nat.le_of_ble_eq_true rfl⟩ dX6_isSound_65 (fun r65 σ65 => ?_)
        refine j_imul C dX6_isSound_68 ?_
        refine j_iadd C dX6_isSound_69 ?_
        refine j_istore_n [(2, .int (x2 + ((r52 * r58) * r65))), (0, .ref (ea E 84)), (1, .int x1), (3, .int x3)] C dX6_isSound_70 rfl (by decide) rfl ?_
        refine j_iinc 3 1 [(3, .int (x3 + 1)), (2, .int (x2 + ((r52 * r58) * r65))), (0, .ref (ea E 84)), (1, .int x1)] C dX6_isSound_71 rfl rfl (by decide) rfl ?_
        refine j_goto 42 C dX6_isSound_74 (by decide) ?_
        exact j_sub [2, 3, 1, 0] rfl (ih42 (x2 + ((r52 * r58) * r65)) (x3 + 1) σ65)
  have wL8 : ∀ (K8 : Int32 → Hp → Option (Int32 × Hp)), (∀ (x1 : Int32) (σ : Hp), J E 5 p l e rm6_isSound s m args below meth c (QI E below args s rm6_isSound.cells rm6_isSound.slots) (K8 x1 σ) 38 [(0, .ref (ea E 84)), (1, .int x1)] [] σ 0 0) → ∀ (n8 : Nat) (x1 : Int32) (x2 : Int32) (σ : Hp), J E 5 p l e rm6_isSound s m args below meth c (QI E below args s rm6_isSound.cells rm6_isSound.slots) (f6_isSound_L8 N K8 n8 x1 x2 σ) 8 [(0, .ref (ea E 84)), (1, .int x1), (2, .int x2)] [] σ 0 0 := by
    intro K8 HK8 n8
    induction n8 with
    | zero => intro x1 x2 σ; exact j_none
    | succ n8 ih8 =>
      have wJ30 : ∀ (x2 : Int32) (y0 : Int32) (y1 : Int32) (σ : Hp), J E 5 p l e rm6_isSound s m args below meth c (QI E below args s rm6_isSound.cells rm6_isSound.slots) (f6_isSound_J30 N K8 (f6_isSound_L8 N K8 n8) x2 y0 y1 σ) 30 [(0, .ref (ea E 84)), (2, .int x2)] [.int y0, .int y1] σ 0 0 := by
        intro x2 y0 y1 σ
        unfold f6_isSound_J30
        refine j_iadd C dX6_isSound_30 ?_
        refine j_istore_n [(1, .int (y1 + y0)), (0, .ref (ea E 84)), (2, .int x2)] C dX6_isSound_31 rfl (by decide) rfl ?_
        refine j_iinc 2 1 [(2, .int (x2 + 1)), (1, .int (y1 + y0)), (0, .ref (ea E 84))] C dX6_isSound_32 rfl rfl (by decide) rfl ?_
        refine j_goto 8 C dX6_isSound_35 (by decide) ?_
        exact j_sub [2, 1, 0] rfl (ih8 (y1 + y0) (x2 + 1) σ)
      intro x1 x2 σ
      show J E 5 p l e rm6_isSound s m args below meth c (QI E below args s rm6_isSound.cells rm6_isSound.slots) (f6_isSound_B8 N K8 (f6_isSound_L8 N K8 n8) x1 x2 σ) 8 [(0, .ref (ea E 84)), (1, .int x1), (2, .int x2)] [] σ 0 0
      unfold f6_isSound_B8
      refine j_iload_n 2 C dX6_isSound_8 rfl rfl ?_
      refine j_sipush (v := 480) 480 C dX6_isSound_9 (by decide) ?_
      refine j_ige 38 C dX6_isSound_12 (by decide) ?_ ?_
      · exact j_sub [0, 1] rfl (HK8 x1 σ)
      · refine j_iload_n 1 C dX6_isSound_15 rfl rfl ?_
        refine j_aload_n 0 C dX6_isSound_16 rfl rfl ?_
        refine j_get 7 C fl6_33 (by decide) (ct_84 E _) rfl dX6_isSound_17 ?_
        refine j_iload_n 2 C dX6_isSound_20 rfl rfl ?_
        refine j_iald C (by decide) (ct_89 E _) dX6_isSound_21 ?_
        refine j_zeq 29 C dX6_isSound_22 (by decide) ?_ ?_
        · refine j_iconst (v := 0) 0 C dX6_isSound_29 (by decide) ?_
          exact j_sub [0, 2] rfl (wJ30 x2 0 x1 σ)
        · refine j_iconst (v := 1) 1 C dX6_isSound_25 (by decide) ?_
          refine j_goto 30 C dX6_isSound_26 (by decide) ?_
          exact j_sub [0, 2] rfl (wJ30 x2 1 x1 σ)
  unfold f6_isSound
  refine j_aload_n 0 C dX6_isSound_0 rfl rfl ?_
  refine j_callVV [] (con6_asks N) C mi6_asks mv6_asks lk6_198 (by decide) (ct_84 E _) rfl rfl rfl ⟨Nat.le_of_ble_eq_true rfl, Nat.le_of_ble_eq_true rfl, Nat.le_of_ble_eq_true rfl, Nat.le_of_ble_eq_true rfl, Nat.le_of_ble_eq_true rfl⟩ dX6_isSound_1 (fun σ1 => ?_)
  refine j_iconst (v := 0) 0 C dX6_isSound_4 (by decide) ?_
  refine j_istore_n [(1, .int 0), (0, .ref (ea E 84))] C dX6_isSound_5 rfl (by decide) rfl ?_
  refine j_iconst (v := 0) 0 C dX6_isSound_6 (by decide) ?_
  refine j_istore_n [(2, .int 0), (1, .int 0), (0, .ref (ea E 84))] C dX6_isSound_7 rfl (by decide) rfl ?_
  refine j_sub [2, 1, 0] rfl (wL8 _ (fun x1_8 σL8 => ?_) N 0 0 σ1)
  refine j_iconst (v := 0) 0 C dX6_isSound_38 (by decide) ?_
  refine j_istore_n [(2, .int 0), (0, .ref (ea E 84)), (1, .int x1_8)] C dX6_isSound_39 rfl (by decide) rfl ?_
  refine j_iconst (v := 0) 0 C dX6_isSound_40 (by decide) ?_
  refine j_istore_n [(3, .int 0), (2, .int 0), (0, .ref (ea E 84)), (1, .int x1_8)] C dX6_isSound_41 rfl (by decide) rfl ?_
  refine j_sub [2, 3, 1, 0] rfl (wL42 x1_8 _ (fun x2_42 σL42 => ?_) N 0 0 σL8)
  refine j_iconst (v := 0) 0 C dX6_isSound_77 (by decide) ?_
  refine j_istore_n [(3, .int 0), (0, .ref (ea E 84)), (1, .int x1_8), (2, .int x2_42)] C dX6_isSound_78 rfl (by decide) rfl ?_
  refine j_sub [1, 2, 3, 0] rfl (wL79 x1_8 _ (fun x2_79 σL79 => ?_) N x2_42 0 σL42)
  refine j_iload_n 0 C dX6_isSound_164 rfl rfl ?_
  refine j_iload_n 1 C dX6_isSound_165 rfl rfl ?_
  refine j_ine 173 C dX6_isSound_166 (by decide) ?_ ?_
  · refine j_iconst (v := 0) 0 C dX6_isSound_173 (by decide) ?_
    exact j_iret C hr hlocks rfl dX6_isSound_174 (Nat.le_of_ble_eq_true rfl) (Nat.le_of_ble_eq_true rfl)
  · refine j_iconst (v := 1) 1 C dX6_isSound_169 (by decide) ?_
    refine j_goto 174 C dX6_isSound_170 (by decide) ?_
    exact j_iret C hr hlocks rfl dX6_isSound_174 (Nat.le_of_ble_eq_true rfl) (Nat.le_of_ble_eq_true rfl)
set_option maxHeartbeats 4000000 in
set_option maxRecDepth 100000 in
theorem con6_layDown (N : Nat) (x1 : Int32) (x2 : Int32) (x3 : Int32) (x4 : Int32) : ConI yX6_layDown cX6_layDown 8 .int rm6_layDown (fun E => [.ref (ea E 84), .int x1, .int x2, .int x3, .int x4]) (f6_layDown N x1 x2 x3 x4) := by
  refine conI_of (L := fun E => [(0, .ref (ea E 84)), (1, .int x1), (2, .int x2), (3, .int x3), (4, .int x4)]) (by decide) (fun _ => Nat.le_of_ble_eq_true rfl) (fun _ => rfl) ?_
  intro l E σ p e s m args below meth c C hr hlocks
  have wL168 : ∀ (K168 : Int32 → Hp → Option (Int32 × Hp)), (∀ (x6 : Int32) (σ : Hp), J E 8 p l e rm6_layDown s m args below meth c (QI E below args s rm6_layDown.cells rm6_layDown.slots) (K168 x6 σ) 204 [(6, .int x6)] [] σ 0 0) → ∀ (n168 : Nat) (x6 : Int32) (x7 : Int32) (σ : Hp), J E 8 p l e rm6_layDown s m args below meth c (QI E below args s rm6_layDown.cells rm6_layDown.slots) (f6_layDown_L168 N x1 x2 x3 x4 K168 n168 x6 x7 σ) 168 [(0, .ref (ea E 84)), (1, .int x1), (6, .int x6), (7, .int x7)] [] σ 0 0 := by
    intro K168 HK168 n168
    induction n168 with
    | zero => intro x6 x7 σ; exact j_none
    | succ n168 ih168 =>
      have wJ195 : ∀ (x7 : Int32) (y0 : Int32) (y1 : Int32) (σ : Hp), J E 8 p l e rm6_layDown s m args below meth c (QI E below args s rm6_layDown.cells rm6_layDown.slots) (f6_layDown_J195 N x1 x2 x3 x4 K168 (f6_layDown_L168 N x1 x2 x3 x4 K168 n168) x7 y0 y1 σ) 195 [(0, .ref (ea E 84)), (1, .int x1), (7, .int x7)] [.int y0, .int y1] σ 0 0 := by
        intro x7 y0 y1 σ
        unfold f6_layDown_J195
        refine j_iadd C dX6_layDown_195 ?_
        refine j_istore [(6, .int (y1 + y0)), (0, .ref (ea E 84)), (1, .int x1), (7, .int x7)] C dX6_layDown_196 (by decide) rfl ?_
        refine j_iinc 3 1 [(7, .int (x7 + 1)), (6, .int (y1 + y0)), (0, .ref (ea E 84)), (1, .int x1)] C dX6_layDown_198 rfl rfl (by decide) rfl ?_
        refine j_goto 168 C dX6_layDown_201 (by decide) ?_
        exact j_sub [2, 3, 1, 0] rfl (ih168 (y1 + y0) (x7 + 1) σ)
      intro x6 x7 σ
      show J E 8 p l e rm6_layDown s m args below meth c (QI E below args s rm6_layDown.cells rm6_layDown.slots) (f6_layDown_B168 N x1 x2 x3 x4 K168 (f6_layDown_L168 N x1 x2 x3 x4 K168 n168) x6 x7 σ) 168 [(0, .ref (ea E 84)), (1, .int x1), (6, .int x6), (7, .int x7)] [] σ 0 0
      unfold f6_layDown_B168
      refine j_iload 3 C dX6_layDown_168 rfl ?_
      refine j_iconst (v := 4) 4 C dX6_layDown_170 (by decide) ?_
      refine j_ige 204 C dX6_layDown_171 (by decide) ?_ ?_
      · exact j_sub [2] rfl (HK168 x6 σ)
      · refine j_iload 2 C dX6_layDown_174 rfl ?_
        refine j_aload_n 0 C dX6_layDown_176 rfl rfl ?_
        refine j_get 15 C fl6_57 (by decide) (ct_84 E _) rfl dX6_layDown_177 ?_
        refine j_iconst (v := 4) 4 C dX6_layDown_180 (by decide) ?_
        refine j_iload_n 1 C dX6_layDown_181 rfl rfl ?_
        refine j_imul C dX6_layDown_182 ?_
        refine j_iload 3 C dX6_layDown_183 rfl ?_
        refine j_iadd C dX6_layDown_185 ?_
        refine j_iald C (by decide) (ct_96 E _) dX6_layDown_186 ?_
        refine j_zle 194 C dX6_layDown_187 (by decide) ?_ ?_
        · refine j_iconst (v := 0) 0 C dX6_layDown_194 (by decide) ?_
          exact j_sub [0, 1, 3] rfl (wJ195 x7 0 x6 σ)
        · refine j_iconst (v := 1) 1 C dX6_layDown_190 (by decide) ?_
          refine j_goto 195 C dX6_layDown_191 (by decide) ?_
          exact j_sub [0, 1, 3] rfl (wJ195 x7 1 x6 σ)
  have wL104 : ∀ (x5 : Int32) (K104 : Hp → Option (Int32 × Hp)), (∀ (σ : Hp), J E 8 p l e rm6_layDown s m args below meth c (QI E below args s rm6_layDown.cells rm6_layDown.slots) (K104 σ) 162 [(0, .ref (ea E 84)), (1, .int x1)] [] σ 0 0) → ∀ (n104 : Nat) (x6 : Int32) (σ : Hp), J E 8 p l e rm6_layDown s m args below meth c (QI E below args s rm6_layDown.cells rm6_layDown.slots) (f6_layDown_L104 N x1 x2 x3 x4 x5 K104 n104 x6 σ) 104 [(0, .ref (ea E 84)), (1, .int x1), (3, .int x3), (4, .int x4), (5, .int x5), (6, .int x6)] [] σ 0 0 := by
    intro x5 K104 HK104 n104
    induction n104 with
    | zero => intro x6 σ; exact j_none
    | succ n104 ih104 =>
      have wJ155 : ∀ (x6 : Int32) (y0 : Int32) (y1 : Int32) (σ : Hp), J E 8 p l e rm6_layDown s m args below meth c (QI E below args s rm6_layDown.cells rm6_layDown.slots) (f6_layDown_J155 N x1 x2 x3 x4 x5 K104 (f6_layDown_L104 N x1 x2 x3 x4 x5 K104 n104) x6 y0 y1 σ) 155 [(0, .ref (ea E 84)), (1, .int x1), (3, .int x3), (4, .int x4), (5, .int x5), (6, .int x6)] [.int y0, .int y1, .ref (ea E 97)] σ 0 0 := by
        intro x6 y0 y1 σ
        unfold f6_layDown_J155
        refine j_iast C (by decide) (ct_97 E) dX6_layDown_155 ?_
        refine j_iinc 5 1 [(6, .int (x6 + 1)), (0, .ref (ea E 84)), (1, .int x1), (3, .int x3), (4, .int x4), (5, .int x5)] C dX6_layDown_156 rfl rfl (by decide) rfl ?_
        refine j_goto 104 C dX6_layDown_159 (by decide) ?_
        exact j_sub [1, 2, 3, 4, 5, 0] rfl (ih104 (x6 + 1) (st σ 97 y1.toNatClampNeg y0))
      have wJ117 : ∀ (x6 : Int32) (y0 : Int32) (y1 : Int32) (σ : Hp), J E 8 p l e rm6_layDown s m args below meth c (QI E below args s rm6_layDown.cells rm6_layDown.slots) (f6_layDown_J117 N x1 x2 x3 x4 x5 K104 (f6_layDown_L104 N x1 x2 x3 x4 x5 K104 n104) x6 y0 y1 σ) 117 [(0, .ref (ea E 84)), (1, .int x1), (3, .int x3), (4, .int x4), (5, .int x5), (6, .int x6)] [.int y0, .int y1] σ 0 0 := by
        intro x6 y0 y1 σ
        unfold f6_layDown_J117
        refine j_ige 162 C dX6_layDown_117 (by decide) ?_ ?_
        · exact j_sub [0, 1] rfl (HK104 σ)
        · refine j_aload_n 0 C dX6_layDown_120 rfl rfl ?_
          refine j_get 16 C fl6_60 (by decide) (ct_84 E _) rfl dX6_layDown_121 ?_
          refine j_bipush (v := 9) 9 C dX6_layDown_124 (by decide) ?_
          refine j_iload 4 C dX6_layDown_126 rfl ?_
          refine j_imul C dX6_layDown_128 ?_
          refine j_iload 5 C dX6_layDown_129 rfl ?_
          refine j_iadd C dX6_layDown_131 ?_
          refine j_iload_n 2 C dX6_layDown_132 rfl rfl ?_
          refine j_zeq 147 C dX6_layDown_133 (by decide) ?_ ?_
          · refine j_aload_n 0 C dX6_layDown_147 rfl rfl ?_
            refine j_iload 3 C dX6_layDown_148 rfl ?_
            refine j_iload 5 C dX6_layDown_150 rfl ?_
            refine j_callVI [.int x4, .int x6] (con6_ad N x4 x6) C mi6_ad mv6_ad lk6_96 (by decide) (ct_84 E _) rfl rfl rfl ⟨Nat.le_of_ble_eq_true rfl, Nat.le_of_ble_eq_true rfl, Nat.le_of_ble_eq_true rfl, Nat.le_of_ble_eq_true rfl, Nat.le_of_ble_eq_true rfl⟩ dX6_layDown_152 (fun r152 σ152 => ?_)
            exact j_sub [0, 1, 2, 3, 4, 5] rfl (wJ155 x6 r152 ((9 * x5) + x6) σ152)
          · refine j_aload_n 0 C dX6_layDown_136 rfl rfl ?_
            refine j_iload 3 C dX6_layDown_137 rfl ?_
            refine j_iload 5 C dX6_layDown_139 rfl ?_
            refine j_callVI [.int x4, .int x6] (con6_of N x4 x6) C mi6_of mv6_of lk6_92 (by decide) (ct_84 E _) rfl rfl rfl ⟨Nat.le_of_ble_eq_true rfl, Nat.le_of_ble_eq_true rfl, Nat.le_of_ble_eq_true rfl, Nat.le_of_ble_eq_true rfl, Nat.le_of_ble_eq_true rfl⟩ dX6_layDown_141 (fun r141 σ141 => ?_)
            refine j_goto 155 C dX6_layDown_144 (by decide) ?_
            exact j_sub [0, 1, 2, 3, 4, 5] rfl (wJ155 x6 r141 ((9 * x5) + x6) σ141)
      intro x6 σ
      show J E 8 p l e rm6_layDown s m args below meth c (QI E below args s rm6_layDown.cells rm6_layDown.slots) (f6_layDown_B104 N x1 x2 x3 x4 x5 K104 (f6_layDown_L104 N x1 x2 x3 x4 x5 K104 n104) x6 σ) 104 [(0, .ref (ea E 84)), (1, .int x1), (3, .int x3), (4, .int x4), (5, .int x5), (6, .int x6)] [] σ 0 0
      unfold f6_layDown_B104
      refine j_iload 5 C dX6_layDown_104 rfl ?_
      refine j_iload_n 2 C dX6_layDown_106 rfl rfl ?_
      refine j_zeq 115 C dX6_layDown_107 (by decide) ?_ ?_
      · refine j_bipush (v := 7) 7 C dX6_layDown_115 (by decide) ?_
        exact j_sub [0, 1, 2, 3, 4, 5] rfl (wJ117 x6 7 x6 σ)
      · refine j_bipush (v := 9) 9 C dX6_layDown_110 (by decide) ?_
        refine j_goto 117 C dX6_layDown_112 (by decide) ?_
        exact j_sub [0, 1, 2, 3, 4, 5] rfl (wJ117 x6 9 x6 σ)
  have wJ100 : ∀ (x5 : Int32) (y0 : Int32) (y1 : Int32) (σ : Hp), J E 8 p l e rm6_layDown s m args below meth c (QI E below args s rm6_layDown.cells rm6_layDown.slots) (f6_layDown_J100 N x1 x2 x3 x4 x5 y0 y1 σ) 100 [(0, .ref (ea E 84)), (1, .int x1), (3, .int x3), (4, .int x4), (5, .int x5)] [.int y0, .int y1, .ref (ea E 96)] σ 0 0 := by
    intro x5 y0 y1 σ
    unfold f6_layDown_J100
    refine j_iast C (by decide) (ct_96 E) dX6_layDown_100 ?_
    refine j_iconst (v := 0) 0 C dX6_layDown_101 (by decide) ?_
    refine j_istore [(6, .int 0), (0, .ref (ea E 84)), (1, .int x1), (3, .int x3), (4, .int x4), (5, .int x5)] C dX6_layDown_102 (by decide) rfl ?_
    refine j_sub [1, 2, 3, 4, 5, 0] rfl (wL104 x5 _ (fun σL104 => ?_) N 0 (st σ 96 y1.toNatClampNeg y0))
    refine j_iconst (v := 0) 0 C dX6_layDown_162 (by decide) ?_
    refine j_istore [(6, .int 0), (0, .ref (ea E 84)), (1, .int x1)] C dX6_layDown_163 (by decide) rfl ?_
    refine j_iconst (v := 0) 0 C dX6_layDown_165 (by decide) ?_
    refine j_istore [(7, .int 0), (6, .int 0), (0, .ref (ea E 84)), (1, .int x1)] C dX6_layDown_166 (by decide) rfl ?_
    refine j_sub [2, 3, 1, 0] rfl (wL168 _ (fun x6_168 σL168 => ?_) N 0 0 σL104)
    refine j_iload 0 C dX6_layDown_204 rfl ?_
    exact j_iret C hr hlocks rfl dX6_layDown_206 (Nat.le_of_ble_eq_true rfl) (Nat.le_of_ble_eq_true rfl)
  have wJ78 : ∀ (σ : Hp), J E 8 p l e rm6_layDown s m args below meth c (QI E below args s rm6_layDown.cells rm6_layDown.slots) (f6_layDown_J78 N x1 x2 x3 x4 σ) 78 [(0, .ref (ea E 84)), (1, .int x1), (2, .int x2), (3, .int x3), (4, .int x4)] [] σ 0 0 := by
    intro σ
    unfold f6_layDown_J78
    refine j_iconst (v := 4) 4 C dX6_layDown_78 (by decide) ?_
    refine j_iload_n 1 C dX6_layDown_79 rfl rfl ?_
    refine j_imul C dX6_layDown_80 ?_
    refine j_iload_n 2 C dX6_layDown_81 rfl rfl ?_
    refine j_iadd C dX6_layDown_82 ?_
    refine j_istore [(5, .int ((4 * x1) + x2)), (0, .ref (ea E 84)), (1, .int x1), (2, .int x2), (3, .int x3), (4, .int x4)] C dX6_layDown_83 (by decide) rfl ?_
    refine j_aload_n 1 C dX6_layDown_85 rfl rfl ?_
    refine j_get 15 C fl6_57 (by decide) (ct_84 E _) rfl dX6_layDown_86 ?_
    refine j_iload 0 C dX6_layDown_89 rfl ?_
    refine j_iload_n 4 C dX6_layDown_91 rfl rfl ?_
    refine j_zeq 99 C dX6_layDown_92 (by decide) ?_ ?_
    · refine j_iconst (v := 2) 2 C dX6_layDown_99 (by decide) ?_
      exact j_sub [1, 2, 4, 5, 0] rfl (wJ100 ((4 * x1) + x2) 2 ((4 * x1) + x2) σ)
    · refine j_iconst (v := 1) 1 C dX6_layDown_95 (by decide) ?_
      refine j_goto 100 C dX6_layDown_96 (by decide) ?_
      exact j_sub [1, 2, 4, 5, 0] rfl (wJ100 ((4 * x1) + x2) 1 ((4 * x1) + x2) σ)
  have wJ68 : ∀ (y0 : Int32) (σ : Hp), J E 8 p l e rm6_layDown s m args below meth c (QI E below args s rm6_layDown.cells rm6_layDown.slots) (f6_layDown_J68 N x1 x2 x3 x4 y0 σ) 68 [(0, .ref (ea E 84)), (1, .int x1), (2, .int x2), (3, .int x3), (4, .int x4)] [.int y0] σ 0 0 := by
    intro y0 σ
    unfold f6_layDown_J68
    refine j_iload_n 3 C dX6_layDown_68 rfl rfl ?_
    refine j_ieq 78 C dX6_layDown_69 (by decide) ?_ ?_
    · exact j_sub [0, 1, 2, 3, 4] rfl (wJ78 σ)
    · refine j_aload_n 0 C dX6_layDown_72 rfl rfl ?_
      refine j_iconst (v := 2) 2 C dX6_layDown_73 (by decide) ?_
      refine j_callVI [.int 2] (con6_fails N 2) C mi6_fails mv6_fails lk6_99 (by decide) (ct_84 E _) rfl rfl rfl ⟨Nat.le_of_ble_eq_true rfl, Nat.le_of_ble_eq_true rfl, Nat.le_of_ble_eq_true rfl, Nat.le_of_ble_eq_true rfl, Nat.le_of_ble_eq_true rfl⟩ dX6_layDown_74 (fun r74 σ74 => ?_)
      exact j_iret C hr hlocks rfl dX6_layDown_77 (Nat.le_of_ble_eq_true rfl) (Nat.le_of_ble_eq_true rfl)
  have wJ54 : ∀ (σ : Hp), J E 8 p l e rm6_layDown s m args below meth c (QI E below args s rm6_layDown.cells rm6_layDown.slots) (f6_layDown_J54 N x1 x2 x3 x4 σ) 54 [(0, .ref (ea E 84)), (1, .int x1), (2, .int x2), (3, .int x3), (4, .int x4)] [] σ 0 0 := by
    intro σ
    unfold f6_layDown_J54
    refine j_iload_n 1 C dX6_layDown_54 rfl rfl ?_
    refine j_iconst (v := 2) 2 C dX6_layDown_55 (by decide) ?_
    refine j_ige 78 C dX6_layDown_56 (by decide) ?_ ?_
    · exact j_sub [0, 1, 2, 3, 4] rfl (wJ78 σ)
    · refine j_iload_n 1 C dX6_layDown_59 rfl rfl ?_
      refine j_zne 67 C dX6_layDown_60 (by decide) ?_ ?_
      · refine j_iconst (v := 0) 0 C dX6_layDown_67 (by decide) ?_
        exact j_sub [0, 1, 2, 3, 4] rfl (wJ68 0 σ)
      · refine j_iconst (v := 1) 1 C dX6_layDown_63 (by decide) ?_
        refine j_goto 68 C dX6_layDown_64 (by decide) ?_
        exact j_sub [0, 1, 2, 3, 4] rfl (wJ68 1 σ)
  have wJ48 : ∀ (σ : Hp), J E 8 p l e rm6_layDown s m args below meth c (QI E below args s rm6_layDown.cells rm6_layDown.slots) (f6_layDown_J48 N x1 x2 x3 x4 σ) 48 [(0, .ref (ea E 84))] [] σ 0 0 := by
    intro σ
    unfold f6_layDown_J48
    refine j_aload_n 0 C dX6_layDown_48 rfl rfl ?_
    refine j_iconst (v := 1) 1 C dX6_layDown_49 (by decide) ?_
    refine j_callVI [.int 1] (con6_fails N 1) C mi6_fails mv6_fails lk6_99 (by decide) (ct_84 E _) rfl rfl rfl ⟨Nat.le_of_ble_eq_true rfl, Nat.le_of_ble_eq_true rfl, Nat.le_of_ble_eq_true rfl, Nat.le_of_ble_eq_true rfl, Nat.le_of_ble_eq_true rfl⟩ dX6_layDown_50 (fun r50 σ50 => ?_)
    exact j_iret C hr hlocks rfl dX6_layDown_53 (Nat.le_of_ble_eq_true rfl) (Nat.le_of_ble_eq_true rfl)
  unfold f6_layDown
  refine j_aload_n 0 C dX6_layDown_0 rfl rfl ?_
  refine j_iconst (v := 0) 0 C dX6_layDown_1 (by decide) ?_
  refine j_put 0 C fl6_3 rfl rfl rfl (by decide) (ct_84 E _) (Nat.le_of_ble_eq_true rfl) (ct_84 E _) dX6_layDown_2 ?_
  refine j_iload_n 1 C dX6_layDown_5 rfl rfl ?_
  refine j_iconst (v := 0) 0 C dX6_layDown_6 (by decide) ?_
  refine j_iconst (v := 2) 2 C dX6_layDown_7 (by decide) ?_
  refine j_callSI [.int x1, .int 0, .int 2] (con6_in N x1 0 2) C mi6_in ms6_in lk6_88 rfl rfl ⟨Nat.le_of_ble_eq_true rfl, Nat.le_of_ble_eq_true rfl, Nat.le_of_ble_eq_true rfl, Nat.le_of_ble_eq_true rfl, Nat.le_of_ble_eq_true rfl⟩ dX6_layDown_8 (fun r8 σ8 => ?_)
  refine j_zeq 48 C dX6_layDown_11 (by decide) ?_ ?_
  · exact j_sub [0] rfl (wJ48 σ8)
  · refine j_iload_n 2 C dX6_layDown_14 rfl rfl ?_
    refine j_iconst (v := 0) 0 C dX6_layDown_15 (by decide) ?_
    refine j_iconst (v := 3) 3 C dX6_layDown_16 (by decide) ?_
    refine j_callSI [.int x2, .int 0, .int 3] (con6_in N x2 0 3) C mi6_in ms6_in lk6_88 rfl rfl ⟨Nat.le_of_ble_eq_true rfl, Nat.le_of_ble_eq_true rfl, Nat.le_of_ble_eq_true rfl, Nat.le_of_ble_eq_true rfl, Nat.le_of_ble_eq_true rfl⟩ dX6_layDown_17 (fun r17 σ17 => ?_)
    refine j_zeq 48 C dX6_layDown_20 (by decide) ?_ ?_
    · exact j_sub [0] rfl (wJ48 σ17)
    · refine j_iload_n 3 C dX6_layDown_23 rfl rfl ?_
      refine j_zeq 39 C dX6_layDown_24 (by decide) ?_ ?_
      · refine j_aload_n 0 C dX6_layDown_39 rfl rfl ?_
        refine j_iload 4 C dX6_layDown_40 rfl ?_
        refine j_callVI [.int x4] (con6_isAd N x4) C mi6_isAd mv6_isAd lk6_141 (by decide) (ct_84 E _) rfl rfl rfl ⟨Nat.le_of_ble_eq_true rfl, Nat.le_of_ble_eq_true rfl, Nat.le_of_ble_eq_true rfl, Nat.le_of_ble_eq_true rfl, Nat.le_of_ble_eq_true rfl⟩ dX6_layDown_42 (fun r42 σ42 => ?_)
        refine j_zne 54 C dX6_layDown_45 (by decide) ?_ ?_
        · exact j_sub [0, 1, 2, 3, 4] rfl (wJ54 σ42)
        · exact j_sub [0] rfl (wJ48 σ42)
      · refine j_aload_n 0 C dX6_layDown_27 rfl rfl ?_
        refine j_iload 4 C dX6_layDown_28 rfl ?_
        refine j_callVI [.int x4] (con6_isStory N x4) C mi6_isStory mv6_isStory lk6_111 (by decide) (ct_84 E _) rfl rfl rfl ⟨Nat.le_of_ble_eq_true rfl, Nat.le_of_ble_eq_true rfl, Nat.le_of_ble_eq_true rfl, Nat.le_of_ble_eq_true rfl, Nat.le_of_ble_eq_true rfl⟩ dX6_layDown_30 (fun r30 σ30 => ?_)
        refine j_zeq 48 C dX6_layDown_33 (by decide) ?_ ?_
        · exact j_sub [0] rfl (wJ48 σ30)
        · refine j_goto 54 C dX6_layDown_36 (by decide) ?_
          exact j_sub [0, 1, 2, 3, 4] rfl (wJ54 σ30)
set_option maxHeartbeats 4000000 in
set_option maxRecDepth 100000 in
theorem con6_takeUp (N : Nat) (x1 : Int32) (x2 : Int32) : ConI yX6_takeUp cX6_takeUp 7 .int rm6_takeUp (fun E => [.ref (ea E 84), .int x1, .int x2]) (f6_takeUp N x1 x2) := by
  refine conI_of (L := fun E => [(0, .ref (ea E 84)), (1, .int x1), (2, .int x2)]) (by decide) (fun _ => Nat.le_of_ble_eq_true rfl) (fun _ => rfl) ?_
  intro l E σ p e s m args below meth c C hr hlocks
  have wL184 : ∀ (x4 : Int32) (x5 : Int32) (K184 : Hp → Option (Int32 × Hp)), (∀ (σ : Hp), J E 7 p l e rm6_takeUp s m args below meth c (QI E below args s rm6_takeUp.cells rm6_takeUp.slots) (K184 σ) 229 [(0, .ref (ea E 84)), (5, .int x5)] [] σ 0 0) → ∀ (n184 : Nat) (x6 : Int32) (σ : Hp), J E 7 p l e rm6_takeUp s m args below meth c (QI E below args s rm6_takeUp.cells rm6_takeUp.slots) (f6_takeUp_L184 N x1 x2 x4 x5 K184 n184 x6 σ) 184 [(0, .ref (ea E 84)), (4, .int x4), (5, .int x5), (6, .int x6)] [] σ 0 0 := by
    intro x4 x5 K184 HK184 n184
    induction n184 with
    | zero => intro x6 σ; exact j_none
    | succ n184 ih184 =>
      intro x6 σ
      show J E 7 p l e rm6_takeUp s m args below meth c (QI E below args s rm6_takeUp.cells rm6_takeUp.slots) (f6_takeUp_B184 N x1 x2 x4 x5 K184 (f6_takeUp_L184 N x1 x2 x4 x5 K184 n184) x6 σ) 184 [(0, .ref (ea E 84)), (4, .int x4), (5, .int x5), (6, .int x6)] [] σ 0 0
      unfold f6_takeUp_B184
      refine j_iload 3 C dX6_takeUp_184 rfl ?_
      refine j_bipush (v := 9) 9 C dX6_takeUp_186 (by decide) ?_
      refine j_ige 229 C dX6_takeUp_188 (by decide) ?_ ?_
      · exact j_sub [0, 2] rfl (HK184 σ)
      · refine j_aload_n 0 C dX6_takeUp_191 rfl rfl ?_
        refine j_get 0 C fl6_3 (by decide) (ct_84 E _) rfl dX6_takeUp_192 ?_
        refine j_zne 229 C dX6_takeUp_195 (by decide) ?_ ?_
        · exact j_sub [0, 2] rfl (HK184 σ)
        · refine j_aload_n 0 C dX6_takeUp_198 rfl rfl ?_
          refine j_get 1 C fl6_13 (by decide) (ct_84 E _) rfl dX6_takeUp_199 ?_
          refine j_iconst (v := 2) 2 C dX6_takeUp_202 (by decide) ?_
          refine j_bipush (v := 9) 9 C dX6_takeUp_203 (by decide) ?_
          refine j_iload 2 C dX6_takeUp_205 rfl ?_
          refine j_imul C dX6_takeUp_207 ?_
          refine j_iadd C dX6_takeUp_208 ?_
          refine j_iload 3 C dX6_takeUp_209 rfl ?_
          refine j_iadd C dX6_takeUp_211 ?_
          refine j_aload_n 0 C dX6_takeUp_212 rfl rfl ?_
          refine j_get 16 C fl6_60 (by decide) (ct_84 E _) rfl dX6_takeUp_213 ?_
          refine j_iload 1 C dX6_takeUp_216 rfl ?_
          refine j_iload 3 C dX6_takeUp_218 rfl ?_
          refine j_iadd C dX6_takeUp_220 ?_
          refine j_iald C (by decide) (ct_97 E _) dX6_takeUp_221 ?_
          refine j_iast C (by decide) (ct_85 E) dX6_takeUp_222 ?_
          refine j_iinc 3 1 [(6, .int (x6 + 1)), (0, .ref (ea E 84)), (4, .int x4), (5, .int x5)] C dX6_takeUp_223 rfl rfl (by decide) rfl ?_
          refine j_goto 184 C dX6_takeUp_226 (by decide) ?_
          exact j_sub [1, 2, 3, 0] rfl (ih184 (x6 + 1) (st σ 85 ((2 + (9 * x5)) + x6).toNatClampNeg (σ 97 (x4 + x6).toNatClampNeg)))
  have wJ22 : ∀ (σ : Hp), J E 7 p l e rm6_takeUp s m args below meth c (QI E below args s rm6_takeUp.cells rm6_takeUp.slots) (f6_takeUp_J22 N x1 x2 σ) 22 [(0, .ref (ea E 84))] [] σ 0 0 := by
    intro σ
    unfold f6_takeUp_J22
    refine j_aload_n 0 C dX6_takeUp_22 rfl rfl ?_
    refine j_iconst (v := 1) 1 C dX6_takeUp_23 (by decide) ?_
    refine j_callVI [.int 1] (con6_fails N 1) C mi6_fails mv6_fails lk6_99 (by decide) (ct_84 E _) rfl rfl rfl ⟨Nat.le_of_ble_eq_true rfl, Nat.le_of_ble_eq_true rfl, Nat.le_of_ble_eq_true rfl, Nat.le_of_ble_eq_true rfl, Nat.le_of_ble_eq_true rfl⟩ dX6_takeUp_24 (fun r24 σ24 => ?_)
    exact j_iret C hr hlocks rfl dX6_takeUp_27 (Nat.le_of_ble_eq_true rfl) (Nat.le_of_ble_eq_true rfl)
  unfold f6_takeUp
  refine j_aload_n 0 C dX6_takeUp_0 rfl rfl ?_
  refine j_callVV [] (con6_begins N) C mi6_begins mv6_begins lk6_120 (by decide) (ct_84 E _) rfl rfl rfl ⟨Nat.le_of_ble_eq_true rfl, Nat.le_of_ble_eq_true rfl, Nat.le_of_ble_eq_true rfl, Nat.le_of_ble_eq_true rfl, Nat.le_of_ble_eq_true rfl⟩ dX6_takeUp_1 (fun σ1 => ?_)
  refine j_iload_n 1 C dX6_takeUp_4 rfl rfl ?_
  refine j_iconst (v := 0) 0 C dX6_takeUp_5 (by decide) ?_
  refine j_iconst (v := 2) 2 C dX6_takeUp_6 (by decide) ?_
  refine j_callSI [.int x1, .int 0, .int 2] (con6_in N x1 0 2) C mi6_in ms6_in lk6_88 rfl rfl ⟨Nat.le_of_ble_eq_true rfl, Nat.le_of_ble_eq_true rfl, Nat.le_of_ble_eq_true rfl, Nat.le_of_ble_eq_true rfl, Nat.le_of_ble_eq_true rfl⟩ dX6_takeUp_7 (fun r7 σ7 => ?_)
  refine j_zeq 22 C dX6_takeUp_10 (by decide) ?_ ?_
  · exact j_sub [0] rfl (wJ22 σ7)
  · refine j_iload_n 2 C dX6_takeUp_13 rfl rfl ?_
    refine j_iconst (v := 0) 0 C dX6_takeUp_14 (by decide) ?_
    refine j_iconst (v := 3) 3 C dX6_takeUp_15 (by decide) ?_
    refine j_callSI [.int x2, .int 0, .int 3] (con6_in N x2 0 3) C mi6_in ms6_in lk6_88 rfl rfl ⟨Nat.le_of_ble_eq_true rfl, Nat.le_of_ble_eq_true rfl, Nat.le_of_ble_eq_true rfl, Nat.le_of_ble_eq_true rfl, Nat.le_of_ble_eq_true rfl⟩ dX6_takeUp_16 (fun r16 σ16 => ?_)
    refine j_zne 28 C dX6_takeUp_19 (by decide) ?_ ?_
    · refine j_iconst (v := 4) 4 C dX6_takeUp_28 (by decide) ?_
      refine j_iload_n 1 C dX6_takeUp_29 rfl rfl ?_
      refine j_imul C dX6_takeUp_30 ?_
      refine j_iload_n 2 C dX6_takeUp_31 rfl rfl ?_
      refine j_iadd C dX6_takeUp_32 ?_
      refine j_istore_n [(3, .int ((4 * x1) + x2)), (0, .ref (ea E 84)), (1, .int x1), (2, .int x2)] C dX6_takeUp_33 rfl (by decide) rfl ?_
      refine j_aload_n 1 C dX6_takeUp_34 rfl rfl ?_
      refine j_get 15 C fl6_57 (by decide) (ct_84 E _) rfl dX6_takeUp_35 ?_
      refine j_iload_n 0 C dX6_takeUp_38 rfl rfl ?_
      refine j_iald C (by decide) (ct_96 E _) dX6_takeUp_39 ?_
      refine j_zne 49 C dX6_takeUp_40 (by decide) ?_ ?_
      · refine j_bipush (v := 9) 9 C dX6_takeUp_49 (by decide) ?_
        refine j_iload_n 0 C dX6_takeUp_51 rfl rfl ?_
        refine j_imul C dX6_takeUp_52 ?_
        refine j_istore [(4, .int (9 * ((4 * x1) + x2))), (3, .int ((4 * x1) + x2)), (0, .ref (ea E 84)), (1, .int x1), (2, .int x2)] C dX6_takeUp_53 (by decide) rfl ?_
        refine j_aload_n 2 C dX6_takeUp_55 rfl rfl ?_
        refine j_get 15 C fl6_57 (by decide) (ct_84 E _) rfl dX6_takeUp_56 ?_
        refine j_iload_n 1 C dX6_takeUp_59 rfl rfl ?_
        refine j_iald C (by decide) (ct_96 E _) dX6_takeUp_60 ?_
        refine j_iconst (v := 2) 2 C dX6_takeUp_61 (by decide) ?_
        refine j_ine 129 C dX6_takeUp_62 (by decide) ?_ ?_
        · refine j_aload_n 2 C dX6_takeUp_129 rfl rfl ?_
          refine j_aload_n 2 C dX6_takeUp_130 rfl rfl ?_
          refine j_get 16 C fl6_60 (by decide) (ct_84 E _) rfl dX6_takeUp_131 ?_
          refine j_iload 0 C dX6_takeUp_134 rfl ?_
          refine j_iconst (v := 1) 1 C dX6_takeUp_136 (by decide) ?_
          refine j_iadd C dX6_takeUp_137 ?_
          refine j_iald C (by decide) (ct_97 E _) dX6_takeUp_138 ?_
          refine j_aload_n 2 C dX6_takeUp_139 rfl rfl ?_
          refine j_get 16 C fl6_60 (by decide) (ct_84 E _) rfl dX6_takeUp_140 ?_
          refine j_iload 0 C dX6_takeUp_143 rfl ?_
          refine j_iconst (v := 2) 2 C dX6_takeUp_145 (by decide) ?_
          refine j_iadd C dX6_takeUp_146 ?_
          refine j_iald C (by decide) (ct_97 E _) dX6_takeUp_147 ?_
          refine j_aload_n 2 C dX6_takeUp_148 rfl rfl ?_
          refine j_get 16 C fl6_60 (by decide) (ct_84 E _) rfl dX6_takeUp_149 ?_
          refine j_iload 0 C dX6_takeUp_152 rfl ?_
          refine j_iconst (v := 3) 3 C dX6_takeUp_154 (by decide) ?_
          refine j_iadd C dX6_takeUp_155 ?_
          refine j_iald C (by decide) (ct_97 E _) dX6_takeUp_156 ?_
          refine j_aload_n 2 C dX6_takeUp_157 rfl rfl ?_
          refine j_get 16 C fl6_60 (by decide) (ct_84 E _) rfl dX6_takeUp_158 ?_
          refine j_iload 0 C dX6_takeUp_161 rfl ?_
          refine j_iconst (v := 4) 4 C dX6_takeUp_163 (by decide) ?_
          refine j_iadd C dX6_takeUp_164 ?_
          refine j_iald C (by decide) (ct_97 E _) dX6_takeUp_165 ?_
          refine j_aload_n 2 C dX6_takeUp_166 rfl rfl ?_
          refine j_get 16 C fl6_60 (by decide) (ct_84 E _) rfl dX6_takeUp_167 ?_
          refine j_iload 0 C dX6_takeUp_170 rfl ?_
          refine j_iconst (v := 5) 5 C dX6_takeUp_172 (by decide) ?_
          refine j_iadd C dX6_takeUp_173 ?_
          refine j_iald C (by decide) (ct_97 E _) dX6_takeUp_174 ?_
          refine j_callVI [.int (σ16 97 ((9 * ((4 * x1) + x2)) + 1).toNatClampNeg), .int (σ16 97 ((9 * ((4 * x1) + x2)) + 2).toNatClampNeg), .int (σ16 97 ((9 * ((4 * x1) + x2)) + 3).toNatClampNeg), .int (σ16 97 ((9 * ((4 * x1) + x2)) + 4).toNatClampNeg), .int (σ16 97 ((9 * ((4 * x1) + x2)) + 5).toNatClampNeg)] (con6_laysStory N (σ16 97 ((9 * ((4 * x1) + x2)) + 1).toNatClampNeg) (σ16 97 ((9 * ((4 * x1) + x2)) + 2).toNatClampNeg) (σ16 97 ((9 * ((4 * x1) + x2)) + 3).toNatClampNeg) (σ16 97 ((9 * ((4 * x1) + x2)) + 4).toNatClampNeg) (σ16 97 ((9 * ((4 * x1) + x2)) + 5).toNatClampNeg)) C mi6_laysStory mv6_laysStory lk6_130 (by decide) (ct_84 E _) rfl rfl rfl ⟨Nat.le_of_ble_eq_true rfl, Nat.le_of_ble_eq_true rfl, Nat.le_of_ble_eq_true rfl, Nat.le_of_ble_eq_true rfl, Nat.le_of_ble_eq_true rfl⟩ dX6_takeUp_175 (fun r175 σ175 => ?_)
          refine j_istore [(5, .int r175), (4, .int (9 * ((4 * x1) + x2))), (3, .int ((4 * x1) + x2)), (0, .ref (ea E 84)), (1, .int x1), (2, .int x2)] C dX6_takeUp_178 (by decide) rfl ?_
          refine j_bipush (v := 6) 6 C dX6_takeUp_180 (by decide) ?_
          refine j_istore [(6, .int 6), (5, .int r175), (4, .int (9 * ((4 * x1) + x2))), (3, .int ((4 * x1) + x2)), (0, .ref (ea E 84)), (1, .int x1), (2, .int x2)] C dX6_takeUp_182 (by decide) rfl ?_
          refine j_sub [4, 2, 1, 0] rfl (wL184 (9 * ((4 * x1) + x2)) r175 _ (fun σL184 => ?_) N 6 σ175)
          refine j_aload_n 0 C dX6_takeUp_229 rfl rfl ?_
          refine j_iload 1 C dX6_takeUp_230 rfl ?_
          refine j_callVI [.int r175] (con6_ends N r175) C mi6_ends mv6_ends lk6_127 (by decide) (ct_84 E _) rfl rfl rfl ⟨Nat.le_of_ble_eq_true rfl, Nat.le_of_ble_eq_true rfl, Nat.le_of_ble_eq_true rfl, Nat.le_of_ble_eq_true rfl, Nat.le_of_ble_eq_true rfl⟩ dX6_takeUp_232 (fun r232 σ232 => ?_)
          exact j_iret C hr hlocks rfl dX6_takeUp_235 (Nat.le_of_ble_eq_true rfl) (Nat.le_of_ble_eq_true rfl)
        · refine j_aload_n 2 C dX6_takeUp_65 rfl rfl ?_
          refine j_aload_n 2 C dX6_takeUp_66 rfl rfl ?_
          refine j_aload_n 2 C dX6_takeUp_67 rfl rfl ?_
          refine j_get 16 C fl6_60 (by decide) (ct_84 E _) rfl dX6_takeUp_68 ?_
          refine j_iload 0 C dX6_takeUp_71 rfl ?_
          refine j_iconst (v := 1) 1 C dX6_takeUp_73 (by decide) ?_
          refine j_iadd C dX6_takeUp_74 ?_
          refine j_iald C (by decide) (ct_97 E _) dX6_takeUp_75 ?_
          refine j_aload_n 2 C dX6_takeUp_76 rfl rfl ?_
          refine j_get 16 C fl6_60 (by decide) (ct_84 E _) rfl dX6_takeUp_77 ?_
          refine j_iload 0 C dX6_takeUp_80 rfl ?_
          refine j_iconst (v := 2) 2 C dX6_takeUp_82 (by decide) ?_
          refine j_iadd C dX6_takeUp_83 ?_
          refine j_iald C (by decide) (ct_97 E _) dX6_takeUp_84 ?_
          refine j_aload_n 2 C dX6_takeUp_85 rfl rfl ?_
          refine j_get 16 C fl6_60 (by decide) (ct_84 E _) rfl dX6_takeUp_86 ?_
          refine j_iload 0 C dX6_takeUp_89 rfl ?_
          refine j_iconst (v := 3) 3 C dX6_takeUp_91 (by decide) ?_
          refine j_iadd C dX6_takeUp_92 ?_
          refine j_iald C (by decide) (ct_97 E _) dX6_takeUp_93 ?_
          refine j_aload_n 2 C dX6_takeUp_94 rfl rfl ?_
          refine j_get 16 C fl6_60 (by decide) (ct_84 E _) rfl dX6_takeUp_95 ?_
          refine j_iload 0 C dX6_takeUp_98 rfl ?_
          refine j_iconst (v := 4) 4 C dX6_takeUp_100 (by decide) ?_
          refine j_iadd C dX6_takeUp_101 ?_
          refine j_iald C (by decide) (ct_97 E _) dX6_takeUp_102 ?_
          refine j_aload_n 2 C dX6_takeUp_103 rfl rfl ?_
          refine j_get 16 C fl6_60 (by decide) (ct_84 E _) rfl dX6_takeUp_104 ?_
          refine j_iload 0 C dX6_takeUp_107 rfl ?_
          refine j_iconst (v := 5) 5 C dX6_takeUp_109 (by decide) ?_
          refine j_iadd C dX6_takeUp_110 ?_
          refine j_iald C (by decide) (ct_97 E _) dX6_takeUp_111 ?_
          refine j_aload_n 2 C dX6_takeUp_112 rfl rfl ?_
          refine j_get 16 C fl6_60 (by decide) (ct_84 E _) rfl dX6_takeUp_113 ?_
          refine j_iload 0 C dX6_takeUp_116 rfl ?_
          refine j_bipush (v := 6) 6 C dX6_takeUp_118 (by decide) ?_
          refine j_iadd C dX6_takeUp_120 ?_
          refine j_iald C (by decide) (ct_97 E _) dX6_takeUp_121 ?_
          refine j_callVI [.int (σ16 97 ((9 * ((4 * x1) + x2)) + 1).toNatClampNeg), .int (σ16 97 ((9 * ((4 * x1) + x2)) + 2).toNatClampNeg), .int (σ16 97 ((9 * ((4 * x1) + x2)) + 3).toNatClampNeg), .int (σ16 97 ((9 * ((4 * x1) + x2)) + 4).toNatClampNeg), .int (σ16 97 ((9 * ((4 * x1) + x2)) + 5).toNatClampNeg), .int (σ16 97 ((9 * ((4 * x1) + x2)) + 6).toNatClampNeg)] (con6_laysAd N (σ16 97 ((9 * ((4 * x1) + x2)) + 1).toNatClampNeg) (σ16 97 ((9 * ((4 * x1) + x2)) + 2).toNatClampNeg) (σ16 97 ((9 * ((4 * x1) + x2)) + 3).toNatClampNeg) (σ16 97 ((9 * ((4 * x1) + x2)) + 4).toNatClampNeg) (σ16 97 ((9 * ((4 * x1) + x2)) + 5).toNatClampNeg) (σ16 97 ((9 * ((4 * x1) + x2)) + 6).toNatClampNeg)) C mi6_laysAd mv6_laysAd lk6_123 (by decide) (ct_84 E _) rfl rfl rfl ⟨Nat.le_of_ble_eq_true rfl, Nat.le_of_ble_eq_true rfl, Nat.le_of_ble_eq_true rfl, Nat.le_of_ble_eq_true rfl, Nat.le_of_ble_eq_true rfl⟩ dX6_takeUp_122 (fun r122 σ122 => ?_)
          refine j_callVI [.int r122] (con6_ends N r122) C mi6_ends mv6_ends lk6_127 (by decide) (ct_84 E _) rfl rfl rfl ⟨Nat.le_of_ble_eq_true rfl, Nat.le_of_ble_eq_true rfl, Nat.le_of_ble_eq_true rfl, Nat.le_of_ble_eq_true rfl, Nat.le_of_ble_eq_true rfl⟩ dX6_takeUp_125 (fun r125 σ125 => ?_)
          exact j_iret C hr hlocks rfl dX6_takeUp_128 (Nat.le_of_ble_eq_true rfl) (Nat.le_of_ble_eq_true rfl)
      · refine j_aload_n 1 C dX6_takeUp_43 rfl rfl ?_
        refine j_iconst (v := 2) 2 C dX6_takeUp_44 (by decide) ?_
        refine j_callVI [.int 2] (con6_fails N 2) C mi6_fails mv6_fails lk6_99 (by decide) (ct_84 E _) rfl rfl rfl ⟨Nat.le_of_ble_eq_true rfl, Nat.le_of_ble_eq_true rfl, Nat.le_of_ble_eq_true rfl, Nat.le_of_ble_eq_true rfl, Nat.le_of_ble_eq_true rfl⟩ dX6_takeUp_45 (fun r45 σ45 => ?_)
        exact j_iret C hr hlocks rfl dX6_takeUp_48 (Nat.le_of_ble_eq_true rfl) (Nat.le_of_ble_eq_true rfl)
    · exact j_sub [0] rfl (wJ22 σ16)
set_option maxHeartbeats 4000000 in
set_option maxRecDepth 100000 in
theorem con6_feed (N : Nat) (x1 : Int32) : ConI yX6_feed cX6_feed 2 .int rm6_feed (fun E => [.ref (ea E 84), .int x1]) (f6_feed N x1) := by
  refine conI_of (L := fun E => [(0, .ref (ea E 84)), (1, .int x1)]) (by decide) (fun _ => Nat.le_of_ble_eq_true rfl) (fun _ => rfl) ?_
  intro l E σ p e s m args below meth c C hr hlocks
  unfold f6_feed
  refine j_aload_n 0 C dX6_feed_0 rfl rfl ?_
  refine j_iconst (v := 0) 0 C dX6_feed_1 (by decide) ?_
  refine j_put 0 C fl6_3 rfl rfl rfl (by decide) (ct_84 E _) (Nat.le_of_ble_eq_true rfl) (ct_84 E _) dX6_feed_2 ?_
  refine j_aload_n 0 C dX6_feed_5 rfl rfl ?_
  refine j_get 19 C fl6_69 (by decide) (ct_84 E _) rfl dX6_feed_6 ?_
  refine j_bipush (v := 80) 80 C dX6_feed_9 (by decide) ?_
  refine j_ine 20 C dX6_feed_11 (by decide) ?_ ?_
  · refine j_aload_n 0 C dX6_feed_20 rfl rfl ?_
    refine j_get 17 C fl6_63 (by decide) (ct_84 E _) rfl dX6_feed_21 ?_
    refine j_aload_n 0 C dX6_feed_24 rfl rfl ?_
    refine j_get 19 C fl6_69 (by decide) (ct_84 E _) rfl dX6_feed_25 ?_
    refine j_iload_n 1 C dX6_feed_28 rfl rfl ?_
    refine j_iast C (by decide) (ct_98 E) dX6_feed_29 ?_
    refine j_aload_n 0 C dX6_feed_30 rfl rfl ?_
    refine j_dup C dX6_feed_31 rfl ?_
    refine j_get 19 C fl6_69 (by decide) (ct_84 E _) rfl dX6_feed_32 ?_
    refine j_iconst (v := 1) 1 C dX6_feed_35 (by decide) ?_
    refine j_iadd C dX6_feed_36 ?_
    refine j_put 19 C fl6_69 rfl rfl rfl (by decide) (ct_84 E _) (Nat.le_of_ble_eq_true rfl) (ct_84 E _) dX6_feed_37 ?_
    refine j_aload_n 0 C dX6_feed_40 rfl rfl ?_
    refine j_get 19 C fl6_69 (by decide) (ct_84 E _) rfl dX6_feed_41 ?_
    exact j_iret C hr hlocks rfl dX6_feed_44 (Nat.le_of_ble_eq_true rfl) (Nat.le_of_ble_eq_true rfl)
  · refine j_aload_n 0 C dX6_feed_14 rfl rfl ?_
    refine j_iconst (v := 1) 1 C dX6_feed_15 (by decide) ?_
    refine j_callVI [.int 1] (con6_fails N 1) C mi6_fails mv6_fails lk6_99 (by decide) (ct_84 E _) rfl rfl rfl ⟨Nat.le_of_ble_eq_true rfl, Nat.le_of_ble_eq_true rfl, Nat.le_of_ble_eq_true rfl, Nat.le_of_ble_eq_true rfl, Nat.le_of_ble_eq_true rfl⟩ dX6_feed_16 (fun r16 σ16 => ?_)
    exact j_iret C hr hlocks rfl dX6_feed_19 (Nat.le_of_ble_eq_true rfl) (Nat.le_of_ble_eq_true rfl)
set_option maxHeartbeats 4000000 in
set_option maxRecDepth 100000 in
theorem con6_sign (N : Nat) : ConI yX6_sign cX6_sign 1 .int rm6_sign (fun E => [.ref (ea E 84)]) (f6_sign N) := by
  refine conI_of (L := fun E => [(0, .ref (ea E 84))]) (by decide) (fun _ => Nat.le_of_ble_eq_true rfl) (fun _ => rfl) ?_
  intro l E σ p e s m args below meth c C hr hlocks
  unfold f6_sign
  refine j_aload_n 0 C dX6_sign_0 rfl rfl ?_
  refine j_get 23 C fl6_81 (by decide) (ct_84 E _) rfl dX6_sign_1 ?_
  refine j_zne 30 C dX6_sign_4 (by decide) ?_ ?_
  · refine j_iconst (v := (-1)) (-1) C dX6_sign_30 (by decide) ?_
    exact j_iret C hr hlocks rfl dX6_sign_31 (Nat.le_of_ble_eq_true rfl) (Nat.le_of_ble_eq_true rfl)
  · refine j_aload_n 0 C dX6_sign_7 rfl rfl ?_
    refine j_get 20 C fl6_72 (by decide) (ct_84 E _) rfl dX6_sign_8 ?_
    refine j_aload_n 0 C dX6_sign_11 rfl rfl ?_
    refine j_get 19 C fl6_69 (by decide) (ct_84 E _) rfl dX6_sign_12 ?_
    refine j_ige 30 C dX6_sign_15 (by decide) ?_ ?_
    · refine j_iconst (v := (-1)) (-1) C dX6_sign_30 (by decide) ?_
      exact j_iret C hr hlocks rfl dX6_sign_31 (Nat.le_of_ble_eq_true rfl) (Nat.le_of_ble_eq_true rfl)
    · refine j_aload_n 0 C dX6_sign_18 rfl rfl ?_
      refine j_get 17 C fl6_63 (by decide) (ct_84 E _) rfl dX6_sign_19 ?_
      refine j_aload_n 0 C dX6_sign_22 rfl rfl ?_
      refine j_get 20 C fl6_72 (by decide) (ct_84 E _) rfl dX6_sign_23 ?_
      refine j_iald C (by decide) (ct_98 E _) dX6_sign_26 ?_
      refine j_goto 31 C dX6_sign_27 (by decide) ?_
      exact j_iret C hr hlocks rfl dX6_sign_31 (Nat.le_of_ble_eq_true rfl) (Nat.le_of_ble_eq_true rfl)
set_option maxHeartbeats 4000000 in
set_option maxRecDepth 100000 in
theorem con6_number (N : Nat) : ConI yX6_number cX6_number 3 .int rm6_number (fun E => [.ref (ea E 84)]) (f6_number N) := by
  refine conI_of (L := fun E => [(0, .ref (ea E 84))]) (by decide) (fun _ => Nat.le_of_ble_eq_true rfl) (fun _ => rfl) ?_
  intro l E σ p e s m args below meth c C hr hlocks
  have wJ66 : ∀ (x1 : Int32) (y0 : Int32) (y1 : Int32) (σ : Hp), J E 3 p l e rm6_number s m args below meth c (QI E below args s rm6_number.cells rm6_number.slots) (f6_number_J66 N x1 y0 y1 σ) 66 [(1, .int x1)] [.int y0, .int y1, .ref (ea E 84)] σ 0 0 := by
    intro x1 y0 y1 σ
    unfold f6_number_J66
    refine j_ior C dX6_number_66 ?_
    refine j_gd (fun hb => ?_)
    refine j_put 23 C fl6_81 rfl (nrB hb) (ftB hb) (by decide) (ct_84 E _) (Nat.le_of_ble_eq_true rfl) (ct_84 E _) dX6_number_67 ?_
    refine j_iload_n 0 C dX6_number_70 rfl rfl ?_
    exact j_iret C hr hlocks rfl dX6_number_71 (Nat.le_of_ble_eq_true rfl) (Nat.le_of_ble_eq_true rfl)
  have wL4 : ∀ (K4 : Int32 → Int32 → Hp → Option (Int32 × Hp)), (∀ (x1 : Int32) (x2 : Int32) (σ : Hp), J E 3 p l e rm6_number s m args below meth c (QI E below args s rm6_number.cells rm6_number.slots) (K4 x1 x2 σ) 52 [(0, .ref (ea E 84)), (1, .int x1), (2, .int x2)] [] σ 0 0) → ∀ (n4 : Nat) (x1 : Int32) (x2 : Int32) (σ : Hp), J E 3 p l e rm6_number s m args below meth c (QI E below args s rm6_number.cells rm6_number.slots) (f6_number_L4 N K4 n4 x1 x2 σ) 4 [(0, .ref (ea E 84)), (1, .int x1), (2, .int x2)] [] σ 0 0 := by
    intro K4 HK4 n4
    induction n4 with
    | zero => intro x1 x2 σ; exact j_none
    | succ n4 ih4 =>
      intro x1 x2 σ
      show J E 3 p l e rm6_number s m args below meth c (QI E below args s rm6_number.cells rm6_number.slots) (f6_number_B4 N K4 (f6_number_L4 N K4 n4) x1 x2 σ) 4 [(0, .ref (ea E 84)), (1, .int x1), (2, .int x2)] [] σ 0 0
      unfold f6_number_B4
      refine j_iload_n 2 C dX6_number_4 rfl rfl ?_
      refine j_iconst (v := 3) 3 C dX6_number_5 (by decide) ?_
      refine j_ige 52 C dX6_number_6 (by decide) ?_ ?_
      · exact j_sub [0, 1, 2] rfl (HK4 x1 x2 σ)
      · refine j_aload_n 0 C dX6_number_9 rfl rfl ?_
        refine j_callVI [] (con6_sign N) C mi6_sign mv6_sign lk6_224 (by decide) (ct_84 E _) rfl rfl rfl ⟨Nat.le_of_ble_eq_true rfl, Nat.le_of_ble_eq_true rfl, Nat.le_of_ble_eq_true rfl, Nat.le_of_ble_eq_true rfl, Nat.le_of_ble_eq_true rfl⟩ dX6_number_10 (fun r10 σ10 => ?_)
        refine j_bipush (v := 48) 48 C dX6_number_13 (by decide) ?_
        refine j_bipush (v := 57) 57 C dX6_number_15 (by decide) ?_
        refine j_callSI [.int r10, .int 48, .int 57] (con6_in N r10 48 57) C mi6_in ms6_in lk6_88 rfl rfl ⟨Nat.le_of_ble_eq_true rfl, Nat.le_of_ble_eq_true rfl, Nat.le_of_ble_eq_true rfl, Nat.le_of_ble_eq_true rfl, Nat.le_of_ble_eq_true rfl⟩ dX6_number_17 (fun r17 σ17 => ?_)
        refine j_zeq 52 C dX6_number_20 (by decide) ?_ ?_
        · exact j_sub [0, 1, 2] rfl (HK4 x1 x2 σ17)
        · refine j_bipush (v := 10) 10 C dX6_number_23 (by decide) ?_
          refine j_iload_n 1 C dX6_number_25 rfl rfl ?_
          refine j_imul C dX6_number_26 ?_
          refine j_aload_n 0 C dX6_number_27 rfl rfl ?_
          refine j_callVI [] (con6_sign N) C mi6_sign mv6_sign lk6_224 (by decide) (ct_84 E _) rfl rfl rfl ⟨Nat.le_of_ble_eq_true rfl, Nat.le_of_ble_eq_true rfl, Nat.le_of_ble_eq_true rfl, Nat.le_of_ble_eq_true rfl, Nat.le_of_ble_eq_true rfl⟩ dX6_number_28 (fun r28 σ28 => ?_)
          refine j_iadd C dX6_number_31 ?_
          refine j_bipush (v := 48) 48 C dX6_number_32 (by decide) ?_
          refine j_isub C dX6_number_34 ?_
          refine j_istore_n [(1, .int (((10 * x1) + r28) - 48)), (0, .ref (ea E 84)), (2, .int x2)] C dX6_number_35 rfl (by decide) rfl ?_
          refine j_aload_n 1 C dX6_number_36 rfl rfl ?_
          refine j_dup C dX6_number_37 rfl ?_
          refine j_get 20 C fl6_72 (by decide) (ct_84 E _) rfl dX6_number_38 ?_
          refine j_iconst (v := 1) 1 C dX6_number_41 (by decide) ?_
          refine j_iadd C dX6_number_42 ?_
          refine j_put 20 C fl6_72 rfl rfl rfl (by decide) (ct_84 E _) (Nat.le_of_ble_eq_true rfl) (ct_84 E _) dX6_number_43 ?_
          refine j_iinc 2 1 [(2, .int (x2 + 1)), (1, .int (((10 * x1) + r28) - 48)), (0, .ref (ea E 84))] C dX6_number_46 rfl rfl (by decide) rfl ?_
          refine j_goto 4 C dX6_number_49 (by decide) ?_
          exact j_sub [2, 1, 0] rfl (ih4 (((10 * x1) + r28) - 48) (x2 + 1) (st σ28 84 20 ((σ28 84 20) + 1)))
  unfold f6_number
  refine j_iconst (v := 0) 0 C dX6_number_0 (by decide) ?_
  refine j_istore_n [(1, .int 0), (0, .ref (ea E 84))] C dX6_number_1 rfl (by decide) rfl ?_
  refine j_iconst (v := 0) 0 C dX6_number_2 (by decide) ?_
  refine j_istore_n [(2, .int 0), (1, .int 0), (0, .ref (ea E 84))] C dX6_number_3 rfl (by decide) rfl ?_
  refine j_sub [2, 1, 0] rfl (wL4 _ (fun x1_4 x2_4 σL4 => ?_) N 0 0 σ)
  refine j_aload_n 0 C dX6_number_52 rfl rfl ?_
  refine j_dup C dX6_number_53 rfl ?_
  refine j_get 23 C fl6_81 (by decide) (ct_84 E _) rfl dX6_number_54 ?_
  refine j_iload_n 2 C dX6_number_57 rfl rfl ?_
  refine j_zne 65 C dX6_number_58 (by decide) ?_ ?_
  · refine j_iconst (v := 0) 0 C dX6_number_65 (by decide) ?_
    exact j_sub [1] rfl (wJ66 x1_4 0 (σL4 84 23) σL4)
  · refine j_iconst (v := 1) 1 C dX6_number_61 (by decide) ?_
    refine j_goto 66 C dX6_number_62 (by decide) ?_
    exact j_sub [1] rfl (wJ66 x1_4 1 (σL4 84 23) σL4)
set_option maxHeartbeats 4000000 in
set_option maxRecDepth 100000 in
theorem con6_command (N : Nat) : ConI yX6_command cX6_command 4 .int rm6_command (fun E => [.ref (ea E 84)]) (f6_command N) := by
  refine conI_of (L := fun E => [(0, .ref (ea E 84))]) (by decide) (fun _ => Nat.le_of_ble_eq_true rfl) (fun _ => rfl) ?_
  intro l E σ p e s m args below meth c C hr hlocks
  have wL87 : ∀ (x1 : Int32) (x2 : Int32) (K87 : Hp → Option (Int32 × Hp)), (∀ (σ : Hp), J E 4 p l e rm6_command s m args below meth c (QI E below args s rm6_command.cells rm6_command.slots) (K87 σ) 166 [(1, .int x1)] [] σ 0 0) → ∀ (n87 : Nat) (x3 : Int32) (σ : Hp), J E 4 p l e rm6_command s m args below meth c (QI E below args s rm6_command.cells rm6_command.slots) (f6_command_L87 N x1 x2 K87 n87 x3 σ) 87 [(0, .ref (ea E 84)), (1, .int x1), (2, .int x2), (3, .int x3)] [] σ 0 0 := by
    intro x1 x2 K87 HK87 n87
    induction n87 with
    | zero => intro x3 σ; exact j_none
    | succ n87 ih87 =>
      have wJ160 : ∀ (x3 : Int32) (σ : Hp), J E 4 p l e rm6_command s m args below meth c (QI E below args s rm6_command.cells rm6_command.slots) (f6_command_J160 N x1 x2 K87 (f6_command_L87 N x1 x2 K87 n87) x3 σ) 160 [(0, .ref (ea E 84)), (1, .int x1), (2, .int x2), (3, .int x3)] [] σ 0 0 := by
        intro x3 σ
        unfold f6_command_J160
        refine j_iinc 3 1 [(3, .int (x3 + 1)), (0, .ref (ea E 84)), (1, .int x1), (2, .int x2)] C dX6_command_160 rfl rfl (by decide) rfl ?_
        refine j_goto 87 C dX6_command_163 (by decide) ?_
        exact j_sub [1, 2, 3, 0] rfl (ih87 (x3 + 1) σ)
      have wJ150 : ∀ (x3 : Int32) (σ : Hp), J E 4 p l e rm6_command s m args below meth c (QI E below args s rm6_command.cells rm6_command.slots) (f6_command_J150 N x1 x2 K87 (f6_command_L87 N x1 x2 K87 n87) x3 σ) 150 [(0, .ref (ea E 84)), (1, .int x1), (2, .int x2), (3, .int x3)] [] σ 0 0 := by
        intro x3 σ
        unfold f6_command_J150
        refine j_aload_n 0 C dX6_command_150 rfl rfl ?_
        refine j_get 18 C fl6_66 (by decide) (ct_84 E _) rfl dX6_command_151 ?_
        refine j_iload_n 3 C dX6_command_154 rfl rfl ?_
        refine j_aload_n 0 C dX6_command_155 rfl rfl ?_
        refine j_callVI [] (con6_number N) C mi6_number mv6_number lk6_228 (by decide) (ct_84 E _) rfl rfl rfl ⟨Nat.le_of_ble_eq_true rfl, Nat.le_of_ble_eq_true rfl, Nat.le_of_ble_eq_true rfl, Nat.le_of_ble_eq_true rfl, Nat.le_of_ble_eq_true rfl⟩ dX6_command_156 (fun r156 σ156 => ?_)
        refine j_iast C (by decide) (ct_99 E) dX6_command_159 ?_
        exact j_sub [0, 1, 2, 3] rfl (wJ160 x3 (st σ156 99 x3.toNatClampNeg r156))
      have wJ122 : ∀ (x3 : Int32) (y0 : Int32) (y1 : Int32) (σ : Hp), J E 4 p l e rm6_command s m args below meth c (QI E below args s rm6_command.cells rm6_command.slots) (f6_command_J122 N x1 x2 K87 (f6_command_L87 N x1 x2 K87 n87) x3 y0 y1 σ) 122 [(0, .ref (ea E 84)), (1, .int x1), (2, .int x2), (3, .int x3)] [.int y0, .int y1, .ref (ea E 84)] σ 0 0 := by
        intro x3 y0 y1 σ
        unfold f6_command_J122
        refine j_ior C dX6_command_122 ?_
        refine j_gd (fun hb => ?_)
        refine j_put 23 C fl6_81 rfl (nrB hb) (ftB hb) (by decide) (ct_84 E _) (Nat.le_of_ble_eq_true rfl) (ct_84 E _) dX6_command_123 ?_
        refine j_aload_n 0 C dX6_command_126 rfl rfl ?_
        refine j_get 23 C fl6_81 (by decide) (ct_84 E _) rfl dX6_command_127 ?_
        refine j_zeq 136 C dX6_command_130 (by decide) ?_ ?_
        · refine j_iload_n 3 C dX6_command_136 rfl rfl ?_
          refine j_zle 150 C dX6_command_137 (by decide) ?_ ?_
          · exact j_sub [0, 1, 2, 3] rfl (wJ150 x3 (st σ 84 23 (y1 ||| y0)))
          · refine j_aload_n 0 C dX6_command_140 rfl rfl ?_
            refine j_dup C dX6_command_141 rfl ?_
            refine j_get 20 C fl6_72 (by decide) (ct_84 E _) rfl dX6_command_142 ?_
            refine j_iconst (v := 1) 1 C dX6_command_145 (by decide) ?_
            refine j_iadd C dX6_command_146 ?_
            refine j_put 20 C fl6_72 rfl rfl rfl (by decide) (ct_84 E _) (Nat.le_of_ble_eq_true rfl) (ct_84 E _) dX6_command_147 ?_
            exact j_sub [0, 1, 2, 3] rfl (wJ150 x3 (st (st σ 84 23 (y1 ||| y0)) 84 20 (((st σ 84 23 (y1 ||| y0)) 84 20) + 1)))
        · refine j_goto 160 C dX6_command_133 (by decide) ?_
          exact j_sub [0, 1, 2, 3] rfl (wJ160 x3 (st σ 84 23 (y1 ||| y0)))
      have wJ121 : ∀ (x3 : Int32) (y0 : Int32) (σ : Hp), J E 4 p l e rm6_command s m args below meth c (QI E below args s rm6_command.cells rm6_command.slots) (f6_command_J121 N x1 x2 K87 (f6_command_L87 N x1 x2 K87 n87) x3 y0 σ) 121 [(0, .ref (ea E 84)), (1, .int x1), (2, .int x2), (3, .int x3)] [.int y0, .ref (ea E 84)] σ 0 0 := by
        intro x3 y0 σ
        unfold f6_command_J121
        refine j_iconst (v := 0) 0 C dX6_command_121 (by decide) ?_
        exact j_sub [0, 1, 2, 3] rfl (wJ122 x3 0 y0 σ)
      intro x3 σ
      show J E 4 p l e rm6_command s m args below meth c (QI E below args s rm6_command.cells rm6_command.slots) (f6_command_B87 N x1 x2 K87 (f6_command_L87 N x1 x2 K87 n87) x3 σ) 87 [(0, .ref (ea E 84)), (1, .int x1), (2, .int x2), (3, .int x3)] [] σ 0 0
      unfold f6_command_B87
      refine j_iload_n 3 C dX6_command_87 rfl rfl ?_
      refine j_iload_n 2 C dX6_command_88 rfl rfl ?_
      refine j_ige 166 C dX6_command_89 (by decide) ?_ ?_
      · exact j_sub [1] rfl (HK87 σ)
      · refine j_aload_n 0 C dX6_command_92 rfl rfl ?_
        refine j_get 23 C fl6_81 (by decide) (ct_84 E _) rfl dX6_command_93 ?_
        refine j_zne 166 C dX6_command_96 (by decide) ?_ ?_
        · exact j_sub [1] rfl (HK87 σ)
        · refine j_aload_n 0 C dX6_command_99 rfl rfl ?_
          refine j_dup C dX6_command_100 rfl ?_
          refine j_get 23 C fl6_81 (by decide) (ct_84 E _) rfl dX6_command_101 ?_
          refine j_iload_n 3 C dX6_command_104 rfl rfl ?_
          refine j_zle 121 C dX6_command_105 (by decide) ?_ ?_
          · exact j_sub [0, 1, 2, 3] rfl (wJ121 x3 (σ 84 23) σ)
          · refine j_aload_n 0 C dX6_command_108 rfl rfl ?_
            refine j_callVI [] (con6_sign N) C mi6_sign mv6_sign lk6_224 (by decide) (ct_84 E _) rfl rfl rfl ⟨Nat.le_of_ble_eq_true rfl, Nat.le_of_ble_eq_true rfl, Nat.le_of_ble_eq_true rfl, Nat.le_of_ble_eq_true rfl, Nat.le_of_ble_eq_true rfl⟩ dX6_command_109 (fun r109 σ109 => ?_)
            refine j_bipush (v := 44) 44 C dX6_command_112 (by decide) ?_
            refine j_ieq 121 C dX6_command_114 (by decide) ?_ ?_
            · exact j_sub [0, 1, 2, 3] rfl (wJ121 x3 (σ 84 23) σ109)
            · refine j_iconst (v := 1) 1 C dX6_command_117 (by decide) ?_
              refine j_goto 122 C dX6_command_118 (by decide) ?_
              exact j_sub [0, 1, 2, 3] rfl (wJ122 x3 1 (σ 84 23) σ109)
  have wJ62 : ∀ (x1 : Int32) (x2 : Int32) (y0 : Int32) (y1 : Int32) (σ : Hp), J E 4 p l e rm6_command s m args below meth c (QI E below args s rm6_command.cells rm6_command.slots) (f6_command_J62 N x1 x2 y0 y1 σ) 62 [(0, .ref (ea E 84)), (1, .int x1), (2, .int x2)] [.int y0, .int y1, .ref (ea E 84)] σ 0 0 := by
    intro x1 x2 y0 y1 σ
    unfold f6_command_J62
    refine j_ior C dX6_command_62 ?_
    refine j_gd (fun hb => ?_)
    refine j_put 23 C fl6_81 rfl (nrB hb) (ftB hb) (by decide) (ct_84 E _) (Nat.le_of_ble_eq_true rfl) (ct_84 E _) dX6_command_63 ?_
    refine j_aload_n 0 C dX6_command_66 rfl rfl ?_
    refine j_get 23 C fl6_81 (by decide) (ct_84 E _) rfl dX6_command_67 ?_
    refine j_zeq 75 C dX6_command_70 (by decide) ?_ ?_
    · refine j_aload_n 0 C dX6_command_75 rfl rfl ?_
      refine j_dup C dX6_command_76 rfl ?_
      refine j_get 20 C fl6_72 (by decide) (ct_84 E _) rfl dX6_command_77 ?_
      refine j_iconst (v := 1) 1 C dX6_command_80 (by decide) ?_
      refine j_iadd C dX6_command_81 ?_
      refine j_put 20 C fl6_72 rfl rfl rfl (by decide) (ct_84 E _) (Nat.le_of_ble_eq_true rfl) (ct_84 E _) dX6_command_82 ?_
      refine j_iconst (v := 0) 0 C dX6_command_85 (by decide) ?_
      refine j_istore_n [(3, .int 0), (0, .ref (ea E 84)), (1, .int x1), (2, .int x2)] C dX6_command_86 rfl (by decide) rfl ?_
      refine j_sub [1, 2, 3, 0] rfl (wL87 x1 x2 _ (fun σL87 => ?_) N 0 (st (st σ 84 23 (y1 ||| y0)) 84 20 (((st σ 84 23 (y1 ||| y0)) 84 20) + 1)))
      refine j_iload_n 0 C dX6_command_166 rfl rfl ?_
      exact j_iret C hr hlocks rfl dX6_command_167 (Nat.le_of_ble_eq_true rfl) (Nat.le_of_ble_eq_true rfl)
    · refine j_iconst (v := (-1)) (-1) C dX6_command_73 (by decide) ?_
      exact j_iret C hr hlocks rfl dX6_command_74 (Nat.le_of_ble_eq_true rfl) (Nat.le_of_ble_eq_true rfl)
  have wJ47 : ∀ (x1 : Int32) (y0 : Int32) (σ : Hp), J E 4 p l e rm6_command s m args below meth c (QI E below args s rm6_command.cells rm6_command.slots) (f6_command_J47 N x1 y0 σ) 47 [(0, .ref (ea E 84)), (1, .int x1)] [.int y0] σ 0 0 := by
    intro x1 y0 σ
    unfold f6_command_J47
    refine j_istore_n [(2, .int y0), (0, .ref (ea E 84)), (1, .int x1)] C dX6_command_47 rfl (by decide) rfl ?_
    refine j_aload_n 1 C dX6_command_48 rfl rfl ?_
    refine j_dup C dX6_command_49 rfl ?_
    refine j_get 23 C fl6_81 (by decide) (ct_84 E _) rfl dX6_command_50 ?_
    refine j_iload_n 0 C dX6_command_53 rfl rfl ?_
    refine j_zne 61 C dX6_command_54 (by decide) ?_ ?_
    · refine j_iconst (v := 0) 0 C dX6_command_61 (by decide) ?_
      exact j_sub [1, 2, 0] rfl (wJ62 x1 y0 0 (σ 84 23) σ)
    · refine j_iconst (v := 1) 1 C dX6_command_57 (by decide) ?_
      refine j_goto 62 C dX6_command_58 (by decide) ?_
      exact j_sub [1, 2, 0] rfl (wJ62 x1 y0 1 (σ 84 23) σ)
  unfold f6_command
  refine j_aload_n 0 C dX6_command_0 rfl rfl ?_
  refine j_callVI [] (con6_sign N) C mi6_sign mv6_sign lk6_224 (by decide) (ct_84 E _) rfl rfl rfl ⟨Nat.le_of_ble_eq_true rfl, Nat.le_of_ble_eq_true rfl, Nat.le_of_ble_eq_true rfl, Nat.le_of_ble_eq_true rfl, Nat.le_of_ble_eq_true rfl⟩ dX6_command_1 (fun r1 σ1 => ?_)
  refine j_istore_n [(1, .int r1), (0, .ref (ea E 84))] C dX6_command_4 rfl (by decide) rfl ?_
  refine j_iload_n 0 C dX6_command_5 rfl rfl ?_
  refine j_bipush (v := 115) 115 C dX6_command_6 (by decide) ?_
  refine j_ine 15 C dX6_command_8 (by decide) ?_ ?_
  · refine j_iload_n 0 C dX6_command_15 rfl rfl ?_
    refine j_bipush (v := 97) 97 C dX6_command_16 (by decide) ?_
    refine j_ine 26 C dX6_command_18 (by decide) ?_ ?_
    · refine j_iload_n 0 C dX6_command_26 rfl rfl ?_
      refine j_bipush (v := 112) 112 C dX6_command_27 (by decide) ?_
      refine j_ine 36 C dX6_command_29 (by decide) ?_ ?_
      · refine j_iload_n 0 C dX6_command_36 rfl rfl ?_
        refine j_bipush (v := 108) 108 C dX6_command_37 (by decide) ?_
        refine j_ine 46 C dX6_command_39 (by decide) ?_ ?_
        · refine j_iconst (v := 0) 0 C dX6_command_46 (by decide) ?_
          exact j_sub [1, 0] rfl (wJ47 r1 0 σ1)
        · refine j_iconst (v := 2) 2 C dX6_command_42 (by decide) ?_
          refine j_goto 47 C dX6_command_43 (by decide) ?_
          exact j_sub [1, 0] rfl (wJ47 r1 2 σ1)
      · refine j_iconst (v := 3) 3 C dX6_command_32 (by decide) ?_
        refine j_goto 47 C dX6_command_33 (by decide) ?_
        exact j_sub [1, 0] rfl (wJ47 r1 3 σ1)
    · refine j_bipush (v := 6) 6 C dX6_command_21 (by decide) ?_
      refine j_goto 47 C dX6_command_23 (by decide) ?_
      exact j_sub [1, 0] rfl (wJ47 r1 6 σ1)
  · refine j_iconst (v := 5) 5 C dX6_command_11 (by decide) ?_
    refine j_goto 47 C dX6_command_12 (by decide) ?_
    exact j_sub [1, 0] rfl (wJ47 r1 5 σ1)
set_option maxHeartbeats 4000000 in
set_option maxRecDepth 100000 in
theorem con6_does (N : Nat) (x1 : Int32) : ConI yX6_does cX6_does 2 .int rm6_does (fun E => [.ref (ea E 84), .int x1]) (f6_does N x1) := by
  refine conI_of (L := fun E => [(0, .ref (ea E 84)), (1, .int x1)]) (by decide) (fun _ => Nat.le_of_ble_eq_true rfl) (fun _ => rfl) ?_
  intro l E σ p e s m args below meth c C hr hlocks
  have wJ140 : ∀ (y0 : Int32) (y1 : Int32) (σ : Hp), J E 2 p l e rm6_does s m args below meth c (QI E below args s rm6_does.cells rm6_does.slots) (f6_does_J140 N x1 y0 y1 σ) 140 [] [.int y0, .int y1, .ref (ea E 84)] σ 0 0 := by
    intro y0 y1 σ
    unfold f6_does_J140
    refine j_callVI [.int y1, .int y0] (con6_laysLate N y1 y0) C mi6_laysLate mv6_laysLate lk6_138 (by decide) (ct_84 E _) rfl rfl rfl ⟨Nat.le_of_ble_eq_true rfl, Nat.le_of_ble_eq_true rfl, Nat.le_of_ble_eq_true rfl, Nat.le_of_ble_eq_true rfl, Nat.le_of_ble_eq_true rfl⟩ dX6_does_140 (fun r140 σ140 => ?_)
    exact j_iret C hr hlocks rfl dX6_does_143 (Nat.le_of_ble_eq_true rfl) (Nat.le_of_ble_eq_true rfl)
  unfold f6_does
  refine j_iload_n 1 C dX6_does_0 rfl rfl ?_
  refine j_bipush (v := 115) 115 C dX6_does_1 (by decide) ?_
  refine j_ine 41 C dX6_does_3 (by decide) ?_ ?_
  · refine j_iload_n 1 C dX6_does_41 rfl rfl ?_
    refine j_bipush (v := 97) 97 C dX6_does_42 (by decide) ?_
    refine j_ine 88 C dX6_does_44 (by decide) ?_ ?_
    · refine j_iload_n 1 C dX6_does_88 rfl rfl ?_
      refine j_bipush (v := 112) 112 C dX6_does_89 (by decide) ?_
      refine j_ine 119 C dX6_does_91 (by decide) ?_ ?_
      · refine j_aload_n 0 C dX6_does_119 rfl rfl ?_
        refine j_aload_n 0 C dX6_does_120 rfl rfl ?_
        refine j_get 18 C fl6_66 (by decide) (ct_84 E _) rfl dX6_does_121 ?_
        refine j_iconst (v := 0) 0 C dX6_does_124 (by decide) ?_
        refine j_iald C (by decide) (ct_99 E _) dX6_does_125 ?_
        refine j_aload_n 0 C dX6_does_126 rfl rfl ?_
        refine j_get 18 C fl6_66 (by decide) (ct_84 E _) rfl dX6_does_127 ?_
        refine j_iconst (v := 1) 1 C dX6_does_130 (by decide) ?_
        refine j_iald C (by decide) (ct_99 E _) dX6_does_131 ?_
        refine j_zeq 139 C dX6_does_132 (by decide) ?_ ?_
        · refine j_iconst (v := 0) 0 C dX6_does_139 (by decide) ?_
          exact j_sub [] rfl (wJ140 0 (σ 99 (0 : Int32).toNatClampNeg) σ)
        · refine j_iconst (v := 1) 1 C dX6_does_135 (by decide) ?_
          refine j_goto 140 C dX6_does_136 (by decide) ?_
          exact j_sub [] rfl (wJ140 1 (σ 99 (0 : Int32).toNatClampNeg) σ)
      · refine j_aload_n 0 C dX6_does_94 rfl rfl ?_
        refine j_aload_n 0 C dX6_does_95 rfl rfl ?_
        refine j_get 18 C fl6_66 (by decide) (ct_84 E _) rfl dX6_does_96 ?_
        refine j_iconst (v := 0) 0 C dX6_does_99 (by decide) ?_
        refine j_iald C (by decide) (ct_99 E _) dX6_does_100 ?_
        refine j_aload_n 0 C dX6_does_101 rfl rfl ?_
        refine j_get 18 C fl6_66 (by decide) (ct_84 E _) rfl dX6_does_102 ?_
        refine j_iconst (v := 1) 1 C dX6_does_105 (by decide) ?_
        refine j_iald C (by decide) (ct_99 E _) dX6_does_106 ?_
        refine j_aload_n 0 C dX6_does_107 rfl rfl ?_
        refine j_get 18 C fl6_66 (by decide) (ct_84 E _) rfl dX6_does_108 ?_
        refine j_iconst (v := 2) 2 C dX6_does_111 (by decide) ?_
        refine j_iald C (by decide) (ct_99 E _) dX6_does_112 ?_
        refine j_callVI [.int (σ 99 (0 : Int32).toNatClampNeg), .int (σ 99 (1 : Int32).toNatClampNeg), .int (σ 99 (2 : Int32).toNatClampNeg)] (con6_laysPhoto N (σ 99 (0 : Int32).toNatClampNeg) (σ 99 (1 : Int32).toNatClampNeg) (σ 99 (2 : Int32).toNatClampNeg)) C mi6_laysPhoto mv6_laysPhoto lk6_134 (by decide) (ct_84 E _) rfl rfl rfl ⟨Nat.le_of_ble_eq_true rfl, Nat.le_of_ble_eq_true rfl, Nat.le_of_ble_eq_true rfl, Nat.le_of_ble_eq_true rfl, Nat.le_of_ble_eq_true rfl⟩ dX6_does_113 (fun r113 σ113 => ?_)
        refine j_goto 143 C dX6_does_116 (by decide) ?_
        exact j_iret C hr hlocks rfl dX6_does_143 (Nat.le_of_ble_eq_true rfl) (Nat.le_of_ble_eq_true rfl)
    · refine j_aload_n 0 C dX6_does_47 rfl rfl ?_
      refine j_aload_n 0 C dX6_does_48 rfl rfl ?_
      refine j_get 18 C fl6_66 (by decide) (ct_84 E _) rfl dX6_does_49 ?_
      refine j_iconst (v := 0) 0 C dX6_does_52 (by decide) ?_
      refine j_iald C (by decide) (ct_99 E _) dX6_does_53 ?_
      refine j_aload_n 0 C dX6_does_54 rfl rfl ?_
      refine j_get 18 C fl6_66 (by decide) (ct_84 E _) rfl dX6_does_55 ?_
      refine j_iconst (v := 1) 1 C dX6_does_58 (by decide) ?_
      refine j_iald C (by decide) (ct_99 E _) dX6_does_59 ?_
      refine j_aload_n 0 C dX6_does_60 rfl rfl ?_
      refine j_get 18 C fl6_66 (by decide) (ct_84 E _) rfl dX6_does_61 ?_
      refine j_iconst (v := 2) 2 C dX6_does_64 (by decide) ?_
      refine j_iald C (by decide) (ct_99 E _) dX6_does_65 ?_
      refine j_aload_n 0 C dX6_does_66 rfl rfl ?_
      refine j_get 18 C fl6_66 (by decide) (ct_84 E _) rfl dX6_does_67 ?_
      refine j_iconst (v := 3) 3 C dX6_does_70 (by decide) ?_
      refine j_iald C (by decide) (ct_99 E _) dX6_does_71 ?_
      refine j_aload_n 0 C dX6_does_72 rfl rfl ?_
      refine j_get 18 C fl6_66 (by decide) (ct_84 E _) rfl dX6_does_73 ?_
      refine j_iconst (v := 4) 4 C dX6_does_76 (by decide) ?_
      refine j_iald C (by decide) (ct_99 E _) dX6_does_77 ?_
      refine j_aload_n 0 C dX6_does_78 rfl rfl ?_
      refine j_get 18 C fl6_66 (by decide) (ct_84 E _) rfl dX6_does_79 ?_
      refine j_iconst (v := 5) 5 C dX6_does_82 (by decide) ?_
      refine j_iald C (by decide) (ct_99 E _) dX6_does_83 ?_
      refine j_callVI [.int (σ 99 (0 : Int32).toNatClampNeg), .int (σ 99 (1 : Int32).toNatClampNeg), .int (σ 99 (2 : Int32).toNatClampNeg), .int (σ 99 (3 : Int32).toNatClampNeg), .int (σ 99 (4 : Int32).toNatClampNeg), .int (σ 99 (5 : Int32).toNatClampNeg)] (con6_laysAd N (σ 99 (0 : Int32).toNatClampNeg) (σ 99 (1 : Int32).toNatClampNeg) (σ 99 (2 : Int32).toNatClampNeg) (σ 99 (3 : Int32).toNatClampNeg) (σ 99 (4 : Int32).toNatClampNeg) (σ 99 (5 : Int32).toNatClampNeg)) C mi6_laysAd mv6_laysAd lk6_123 (by decide) (ct_84 E _) rfl rfl rfl ⟨Nat.le_of_ble_eq_true rfl, Nat.le_of_ble_eq_true rfl, Nat.le_of_ble_eq_true rfl, Nat.le_of_ble_eq_true rfl, Nat.le_of_ble_eq_true rfl⟩ dX6_does_84 (fun r84 σ84 => ?_)
      exact j_iret C hr hlocks rfl dX6_does_87 (Nat.le_of_ble_eq_true rfl) (Nat.le_of_ble_eq_true rfl)
  · refine j_aload_n 0 C dX6_does_6 rfl rfl ?_
    refine j_aload_n 0 C dX6_does_7 rfl rfl ?_
    refine j_get 18 C fl6_66 (by decide) (ct_84 E _) rfl dX6_does_8 ?_
    refine j_iconst (v := 0) 0 C dX6_does_11 (by decide) ?_
    refine j_iald C (by decide) (ct_99 E _) dX6_does_12 ?_
    refine j_aload_n 0 C dX6_does_13 rfl rfl ?_
    refine j_get 18 C fl6_66 (by decide) (ct_84 E _) rfl dX6_does_14 ?_
    refine j_iconst (v := 1) 1 C dX6_does_17 (by decide) ?_
    refine j_iald C (by decide) (ct_99 E _) dX6_does_18 ?_
    refine j_aload_n 0 C dX6_does_19 rfl rfl ?_
    refine j_get 18 C fl6_66 (by decide) (ct_84 E _) rfl dX6_does_20 ?_
    refine j_iconst (v := 2) 2 C dX6_does_23 (by decide) ?_
    refine j_iald C (by decide) (ct_99 E _) dX6_does_24 ?_
    refine j_aload_n 0 C dX6_does_25 rfl rfl ?_
    refine j_get 18 C fl6_66 (by decide) (ct_84 E _) rfl dX6_does_26 ?_
    refine j_iconst (v := 3) 3 C dX6_does_29 (by decide) ?_
    refine j_iald C (by decide) (ct_99 E _) dX6_does_30 ?_
    refine j_aload_n 0 C dX6_does_31 rfl rfl ?_
    refine j_get 18 C fl6_66 (by decide) (ct_84 E _) rfl dX6_does_32 ?_
    refine j_iconst (v := 4) 4 C dX6_does_35 (by decide) ?_
    refine j_iald C (by decide) (ct_99 E _) dX6_does_36 ?_
    refine j_callVI [.int (σ 99 (0 : Int32).toNatClampNeg), .int (σ 99 (1 : Int32).toNatClampNeg), .int (σ 99 (2 : Int32).toNatClampNeg), .int (σ 99 (3 : Int32).toNatClampNeg), .int (σ 99 (4 : Int32).toNatClampNeg)] (con6_laysStory N (σ 99 (0 : Int32).toNatClampNeg) (σ 99 (1 : Int32).toNatClampNeg) (σ 99 (2 : Int32).toNatClampNeg) (σ 99 (3 : Int32).toNatClampNeg) (σ 99 (4 : Int32).toNatClampNeg)) C mi6_laysStory mv6_laysStory lk6_130 (by decide) (ct_84 E _) rfl rfl rfl ⟨Nat.le_of_ble_eq_true rfl, Nat.le_of_ble_eq_true rfl, Nat.le_of_ble_eq_true rfl, Nat.le_of_ble_eq_true rfl, Nat.le_of_ble_eq_true rfl⟩ dX6_does_37 (fun r37 σ37 => ?_)
    exact j_iret C hr hlocks rfl dX6_does_40 (Nat.le_of_ble_eq_true rfl) (Nat.le_of_ble_eq_true rfl)
set_option maxHeartbeats 4000000 in
set_option maxRecDepth 100000 in
theorem con6_perform (N : Nat) : ConI yX6_perform cX6_perform 4 .int rm6_perform (fun E => [.ref (ea E 84)]) (f6_perform N) := by
  refine conI_of (L := fun E => [(0, .ref (ea E 84))]) (by decide) (fun _ => Nat.le_of_ble_eq_true rfl) (fun _ => rfl) ?_
  intro l E σ p e s m args below meth c C hr hlocks
  have wL84 : ∀ (K84 : Int32 → Hp → Option (Int32 × Hp)), (∀ (x2 : Int32) (σ : Hp), J E 4 p l e rm6_perform s m args below meth c (QI E below args s rm6_perform.cells rm6_perform.slots) (K84 x2 σ) 170 [(0, .ref (ea E 84)), (2, .int x2)] [] σ 0 0) → ∀ (n84 : Nat) (x2 : Int32) (σ : Hp), J E 4 p l e rm6_perform s m args below meth c (QI E below args s rm6_perform.cells rm6_perform.slots) (f6_perform_L84 N K84 n84 x2 σ) 84 [(0, .ref (ea E 84)), (2, .int x2)] [] σ 0 0 := by
    intro K84 HK84 n84
    induction n84 with
    | zero => intro x2 σ; exact j_none
    | succ n84 ih84 =>
      have wJ109 : ∀ (x2 : Int32) (σ : Hp), J E 4 p l e rm6_perform s m args below meth c (QI E below args s rm6_perform.cells rm6_perform.slots) (f6_perform_J109 N K84 (f6_perform_L84 N K84 n84) x2 σ) 109 [(0, .ref (ea E 84)), (2, .int x2)] [] σ 0 0 := by
        intro x2 σ
        unfold f6_perform_J109
        refine j_aload_n 0 C dX6_perform_109 rfl rfl ?_
        refine j_callVI [] (con6_command N) C mi6_command mv6_command lk6_231 (by decide) (ct_84 E _) rfl rfl rfl ⟨Nat.le_of_ble_eq_true rfl, Nat.le_of_ble_eq_true rfl, Nat.le_of_ble_eq_true rfl, Nat.le_of_ble_eq_true rfl, Nat.le_of_ble_eq_true rfl⟩ dX6_perform_110 (fun r110 σ110 => ?_)
        refine j_istore_n [(1, .int r110), (0, .ref (ea E 84)), (2, .int x2)] C dX6_perform_113 rfl (by decide) rfl ?_
        refine j_aload_n 1 C dX6_perform_114 rfl rfl ?_
        refine j_iload_n 0 C dX6_perform_115 rfl rfl ?_
        refine j_callVI [.int r110] (con6_does N r110) C mi6_does mv6_does lk6_234 (by decide) (ct_84 E _) rfl rfl rfl ⟨Nat.le_of_ble_eq_true rfl, Nat.le_of_ble_eq_true rfl, Nat.le_of_ble_eq_true rfl, Nat.le_of_ble_eq_true rfl, Nat.le_of_ble_eq_true rfl⟩ dX6_perform_116 (fun r116 σ116 => ?_)
        refine j_istore_n [(3, .int r116), (1, .int r110), (0, .ref (ea E 84)), (2, .int x2)] C dX6_perform_119 rfl (by decide) rfl ?_
        refine j_aload_n 2 C dX6_perform_120 rfl rfl ?_
        refine j_get 0 C fl6_3 (by decide) (ct_84 E _) rfl dX6_perform_121 ?_
        refine j_zeq 164 C dX6_perform_124 (by decide) ?_ ?_
        · refine j_iinc 3 1 [(2, .int (x2 + 1)), (3, .int r116), (1, .int r110), (0, .ref (ea E 84))] C dX6_perform_164 rfl rfl (by decide) rfl ?_
          refine j_goto 84 C dX6_perform_167 (by decide) ?_
          exact j_sub [3, 0] rfl (ih84 (x2 + 1) σ116)
        · refine j_aload_n 2 C dX6_perform_127 rfl rfl ?_
          refine j_get 2 C fl6_17 (by decide) (ct_84 E _) rfl dX6_perform_128 ?_
          refine j_iconst (v := 0) 0 C dX6_perform_131 (by decide) ?_
          refine j_aload_n 2 C dX6_perform_132 rfl rfl ?_
          refine j_get 1 C fl6_13 (by decide) (ct_84 E _) rfl dX6_perform_133 ?_
          refine j_iconst (v := 0) 0 C dX6_perform_136 (by decide) ?_
          refine j_callSV [.ref (ea E 86), .int 0, .ref (ea E 85), .int 0] (con6_copies N 86 166 85 166 0 0 ⟨(by decide), fun _ _ => rfl⟩ ⟨(by decide), fun _ _ => rfl⟩) C mi6_copies ms6_copies lk6_84 rfl rfl ⟨Nat.le_of_ble_eq_true rfl, Nat.le_of_ble_eq_true rfl, Nat.le_of_ble_eq_true rfl, Nat.le_of_ble_eq_true rfl, Nat.le_of_ble_eq_true rfl⟩ dX6_perform_137 (fun σ137 => ?_)
          refine j_aload_n 2 C dX6_perform_140 rfl rfl ?_
          refine j_iload_n 3 C dX6_perform_141 rfl rfl ?_
          refine j_put 21 C fl6_75 rfl rfl rfl (by decide) (ct_84 E _) (Nat.le_of_ble_eq_true rfl) (ct_84 E _) dX6_perform_142 ?_
          refine j_aload_n 2 C dX6_perform_145 rfl rfl ?_
          refine j_aload_n 2 C dX6_perform_146 rfl rfl ?_
          refine j_get 0 C fl6_3 (by decide) (ct_84 E _) rfl dX6_perform_147 ?_
          refine j_put 22 C fl6_78 rfl rfl rfl (by decide) (ct_84 E _) (Nat.le_of_ble_eq_true rfl) (ct_84 E _) dX6_perform_150 ?_
          refine j_aload_n 2 C dX6_perform_153 rfl rfl ?_
          refine j_iconst (v := 0) 0 C dX6_perform_154 (by decide) ?_
          refine j_put 19 C fl6_69 rfl rfl rfl (by decide) (ct_84 E _) (Nat.le_of_ble_eq_true rfl) (ct_84 E _) dX6_perform_155 ?_
          refine j_aload_n 2 C dX6_perform_158 rfl rfl ?_
          refine j_iconst (v := 1) 1 C dX6_perform_159 (by decide) ?_
          refine j_callVI [.int 1] (con6_fails N 1) C mi6_fails mv6_fails lk6_99 (by decide) (ct_84 E _) rfl rfl rfl ⟨Nat.le_of_ble_eq_true rfl, Nat.le_of_ble_eq_true rfl, Nat.le_of_ble_eq_true rfl, Nat.le_of_ble_eq_true rfl, Nat.le_of_ble_eq_true rfl⟩ dX6_perform_160 (fun r160 σ160 => ?_)
          exact j_iret C hr hlocks rfl dX6_perform_163 (Nat.le_of_ble_eq_true rfl) (Nat.le_of_ble_eq_true rfl)
      intro x2 σ
      show J E 4 p l e rm6_perform s m args below meth c (QI E below args s rm6_perform.cells rm6_perform.slots) (f6_perform_B84 N K84 (f6_perform_L84 N K84 n84) x2 σ) 84 [(0, .ref (ea E 84)), (2, .int x2)] [] σ 0 0
      unfold f6_perform_B84
      refine j_aload_n 0 C dX6_perform_84 rfl rfl ?_
      refine j_get 20 C fl6_72 (by decide) (ct_84 E _) rfl dX6_perform_85 ?_
      refine j_aload_n 0 C dX6_perform_88 rfl rfl ?_
      refine j_get 19 C fl6_69 (by decide) (ct_84 E _) rfl dX6_perform_89 ?_
      refine j_ige 170 C dX6_perform_92 (by decide) ?_ ?_
      · exact j_sub [0, 1] rfl (HK84 x2 σ)
      · refine j_iload_n 1 C dX6_perform_95 rfl rfl ?_
        refine j_zle 109 C dX6_perform_96 (by decide) ?_ ?_
        · exact j_sub [0, 1] rfl (wJ109 x2 σ)
        · refine j_aload_n 0 C dX6_perform_99 rfl rfl ?_
          refine j_dup C dX6_perform_100 rfl ?_
          refine j_get 20 C fl6_72 (by decide) (ct_84 E _) rfl dX6_perform_101 ?_
          refine j_iconst (v := 1) 1 C dX6_perform_104 (by decide) ?_
          refine j_iadd C dX6_perform_105 ?_
          refine j_put 20 C fl6_72 rfl rfl rfl (by decide) (ct_84 E _) (Nat.le_of_ble_eq_true rfl) (ct_84 E _) dX6_perform_106 ?_
          exact j_sub [0, 1] rfl (wJ109 x2 (st σ 84 20 ((σ 84 20) + 1)))
  have wJ64 : ∀ (σ : Hp), J E 4 p l e rm6_perform s m args below meth c (QI E below args s rm6_perform.cells rm6_perform.slots) (f6_perform_J64 N σ) 64 [(0, .ref (ea E 84))] [] σ 0 0 := by
    intro σ
    unfold f6_perform_J64
    refine j_aload_n 0 C dX6_perform_64 rfl rfl ?_
    refine j_iconst (v := 0) 0 C dX6_perform_65 (by decide) ?_
    refine j_put 19 C fl6_69 rfl rfl rfl (by decide) (ct_84 E _) (Nat.le_of_ble_eq_true rfl) (ct_84 E _) dX6_perform_66 ?_
    refine j_bipush (v := (-100)) (-100) C dX6_perform_69 (by decide) ?_
    refine j_aload_n 0 C dX6_perform_71 rfl rfl ?_
    refine j_get 20 C fl6_72 (by decide) (ct_84 E _) rfl dX6_perform_72 ?_
    refine j_isub C dX6_perform_75 ?_
    exact j_iret C hr hlocks rfl dX6_perform_76 (Nat.le_of_ble_eq_true rfl) (Nat.le_of_ble_eq_true rfl)
  have wL19 : ∀ (K19 : Hp → Option (Int32 × Hp)), (∀ (σ : Hp), J E 4 p l e rm6_perform s m args below meth c (QI E below args s rm6_perform.cells rm6_perform.slots) (K19 σ) 46 [(0, .ref (ea E 84))] [] σ 0 0) → ∀ (n19 : Nat) (σ : Hp), J E 4 p l e rm6_perform s m args below meth c (QI E below args s rm6_perform.cells rm6_perform.slots) (f6_perform_L19 N K19 n19 σ) 19 [(0, .ref (ea E 84))] [] σ 0 0 := by
    intro K19 HK19 n19
    induction n19 with
    | zero => intro σ; exact j_none
    | succ n19 ih19 =>
      intro σ
      show J E 4 p l e rm6_perform s m args below meth c (QI E below args s rm6_perform.cells rm6_perform.slots) (f6_perform_B19 N K19 (f6_perform_L19 N K19 n19) σ) 19 [(0, .ref (ea E 84))] [] σ 0 0
      unfold f6_perform_B19
      refine j_aload_n 0 C dX6_perform_19 rfl rfl ?_
      refine j_callVI [] (con6_sign N) C mi6_sign mv6_sign lk6_224 (by decide) (ct_84 E _) rfl rfl rfl ⟨Nat.le_of_ble_eq_true rfl, Nat.le_of_ble_eq_true rfl, Nat.le_of_ble_eq_true rfl, Nat.le_of_ble_eq_true rfl, Nat.le_of_ble_eq_true rfl⟩ dX6_perform_20 (fun r20 σ20 => ?_)
      refine j_bipush (v := 59) 59 C dX6_perform_23 (by decide) ?_
      refine j_ine 46 C dX6_perform_25 (by decide) ?_ ?_
      · exact j_sub [0] rfl (HK19 σ20)
      · refine j_aload_n 0 C dX6_perform_28 rfl rfl ?_
        refine j_dup C dX6_perform_29 rfl ?_
        refine j_get 20 C fl6_72 (by decide) (ct_84 E _) rfl dX6_perform_30 ?_
        refine j_iconst (v := 1) 1 C dX6_perform_33 (by decide) ?_
        refine j_iadd C dX6_perform_34 ?_
        refine j_put 20 C fl6_72 rfl rfl rfl (by decide) (ct_84 E _) (Nat.le_of_ble_eq_true rfl) (ct_84 E _) dX6_perform_35 ?_
        refine j_aload_n 0 C dX6_perform_38 rfl rfl ?_
        refine j_callVI [] (con6_command N) C mi6_command mv6_command lk6_231 (by decide) (ct_84 E _) rfl rfl rfl ⟨Nat.le_of_ble_eq_true rfl, Nat.le_of_ble_eq_true rfl, Nat.le_of_ble_eq_true rfl, Nat.le_of_ble_eq_true rfl, Nat.le_of_ble_eq_true rfl⟩ dX6_perform_39 (fun r39 σ39 => ?_)
        refine j_istore_n [(1, .int r39), (0, .ref (ea E 84))] C dX6_perform_42 rfl (by decide) rfl ?_
        refine j_goto 19 C dX6_perform_43 (by decide) ?_
        exact j_sub [1] rfl (ih19 σ39)
  unfold f6_perform
  refine j_aload_n 0 C dX6_perform_0 rfl rfl ?_
  refine j_callVV [] (con6_begins N) C mi6_begins mv6_begins lk6_120 (by decide) (ct_84 E _) rfl rfl rfl ⟨Nat.le_of_ble_eq_true rfl, Nat.le_of_ble_eq_true rfl, Nat.le_of_ble_eq_true rfl, Nat.le_of_ble_eq_true rfl, Nat.le_of_ble_eq_true rfl⟩ dX6_perform_1 (fun σ1 => ?_)
  refine j_aload_n 0 C dX6_perform_4 rfl rfl ?_
  refine j_iconst (v := 0) 0 C dX6_perform_5 (by decide) ?_
  refine j_put 20 C fl6_72 rfl rfl rfl (by decide) (ct_84 E _) (Nat.le_of_ble_eq_true rfl) (ct_84 E _) dX6_perform_6 ?_
  refine j_aload_n 0 C dX6_perform_9 rfl rfl ?_
  refine j_iconst (v := 0) 0 C dX6_perform_10 (by decide) ?_
  refine j_put 23 C fl6_81 rfl rfl rfl (by decide) (ct_84 E _) (Nat.le_of_ble_eq_true rfl) (ct_84 E _) dX6_perform_11 ?_
  refine j_aload_n 0 C dX6_perform_14 rfl rfl ?_
  refine j_callVI [] (con6_command N) C mi6_command mv6_command lk6_231 (by decide) (ct_84 E _) rfl rfl rfl ⟨Nat.le_of_ble_eq_true rfl, Nat.le_of_ble_eq_true rfl, Nat.le_of_ble_eq_true rfl, Nat.le_of_ble_eq_true rfl, Nat.le_of_ble_eq_true rfl⟩ dX6_perform_15 (fun r15 σ15 => ?_)
  refine j_istore_n [(1, .int r15), (0, .ref (ea E 84))] C dX6_perform_18 rfl (by decide) rfl ?_
  refine j_sub [1] rfl (wL19 _ (fun σL19 => ?_) N σ15)
  refine j_aload_n 0 C dX6_perform_46 rfl rfl ?_
  refine j_get 23 C fl6_81 (by decide) (ct_84 E _) rfl dX6_perform_47 ?_
  refine j_zne 64 C dX6_perform_50 (by decide) ?_ ?_
  · exact j_sub [0] rfl (wJ64 σL19)
  · refine j_aload_n 0 C dX6_perform_53 rfl rfl ?_
    refine j_get 20 C fl6_72 (by decide) (ct_84 E _) rfl dX6_perform_54 ?_
    refine j_aload_n 0 C dX6_perform_57 rfl rfl ?_
    refine j_get 19 C fl6_69 (by decide) (ct_84 E _) rfl dX6_perform_58 ?_
    refine j_ige 77 C dX6_perform_61 (by decide) ?_ ?_
    · refine j_aload_n 0 C dX6_perform_77 rfl rfl ?_
      refine j_iconst (v := 0) 0 C dX6_perform_78 (by decide) ?_
      refine j_put 20 C fl6_72 rfl rfl rfl (by decide) (ct_84 E _) (Nat.le_of_ble_eq_true rfl) (ct_84 E _) dX6_perform_79 ?_
      refine j_iconst (v := 0) 0 C dX6_perform_82 (by decide) ?_
      refine j_istore_n [(2, .int 0), (0, .ref (ea E 84))] C dX6_perform_83 rfl (by decide) rfl ?_
      refine j_sub [1, 0] rfl (wL84 _ (fun x2_84 σL84 => ?_) N 0 (st σL19 84 20 0))
      refine j_aload_n 0 C dX6_perform_170 rfl rfl ?_
      refine j_iconst (v := 0) 0 C dX6_perform_171 (by decide) ?_
      refine j_put 19 C fl6_69 rfl rfl rfl (by decide) (ct_84 E _) (Nat.le_of_ble_eq_true rfl) (ct_84 E _) dX6_perform_172 ?_
      refine j_aload_n 0 C dX6_perform_175 rfl rfl ?_
      refine j_iload_n 1 C dX6_perform_176 rfl rfl ?_
      refine j_callVI [.int x2_84] (con6_ends N x2_84) C mi6_ends mv6_ends lk6_127 (by decide) (ct_84 E _) rfl rfl rfl ⟨Nat.le_of_ble_eq_true rfl, Nat.le_of_ble_eq_true rfl, Nat.le_of_ble_eq_true rfl, Nat.le_of_ble_eq_true rfl, Nat.le_of_ble_eq_true rfl⟩ dX6_perform_177 (fun r177 σ177 => ?_)
      exact j_iret C hr hlocks rfl dX6_perform_180 (Nat.le_of_ble_eq_true rfl) (Nat.le_of_ble_eq_true rfl)
    · exact j_sub [0] rfl (wJ64 σL19)
set_option maxHeartbeats 4000000 in
set_option maxRecDepth 100000 in
theorem con6_report (N : Nat) (x1 : Int32) (x2 : Int32) : ConI yX6_report cX6_report 3 .int rm6_report (fun E => [.ref (ea E 84), .int x1, .int x2]) (f6_report N x1 x2) := by
  refine conI_of (L := fun E => [(0, .ref (ea E 84)), (1, .int x1), (2, .int x2)]) (by decide) (fun _ => Nat.le_of_ble_eq_true rfl) (fun _ => rfl) ?_
  intro l E σ p e s m args below meth c C hr hlocks
  have wJ21 : ∀ (σ : Hp), J E 3 p l e rm6_report s m args below meth c (QI E below args s rm6_report.cells rm6_report.slots) (f6_report_J21 N x1 x2 σ) 21 [(0, .ref (ea E 84))] [] σ 0 0 := by
    intro σ
    unfold f6_report_J21
    refine j_aload_n 0 C dX6_report_21 rfl rfl ?_
    refine j_iconst (v := 1) 1 C dX6_report_22 (by decide) ?_
    refine j_callVI [.int 1] (con6_fails N 1) C mi6_fails mv6_fails lk6_99 (by decide) (ct_84 E _) rfl rfl rfl ⟨Nat.le_of_ble_eq_true rfl, Nat.le_of_ble_eq_true rfl, Nat.le_of_ble_eq_true rfl, Nat.le_of_ble_eq_true rfl, Nat.le_of_ble_eq_true rfl⟩ dX6_report_23 (fun r23 σ23 => ?_)
    exact j_iret C hr hlocks rfl dX6_report_26 (Nat.le_of_ble_eq_true rfl) (Nat.le_of_ble_eq_true rfl)
  unfold f6_report
  refine j_aload_n 0 C dX6_report_0 rfl rfl ?_
  refine j_iconst (v := 0) 0 C dX6_report_1 (by decide) ?_
  refine j_put 0 C fl6_3 rfl rfl rfl (by decide) (ct_84 E _) (Nat.le_of_ble_eq_true rfl) (ct_84 E _) dX6_report_2 ?_
  refine j_aload_n 0 C dX6_report_5 rfl rfl ?_
  refine j_get 21 C fl6_75 (by decide) (ct_84 E _) rfl dX6_report_6 ?_
  refine j_zlt 21 C dX6_report_9 (by decide) ?_ ?_
  · exact j_sub [0] rfl (wJ21 (st σ 84 0 0))
  · refine j_iload_n 1 C dX6_report_12 rfl rfl ?_
    refine j_iconst (v := 0) 0 C dX6_report_13 (by decide) ?_
    refine j_iconst (v := 1) 1 C dX6_report_14 (by decide) ?_
    refine j_callSI [.int x1, .int 0, .int 1] (con6_in N x1 0 1) C mi6_in ms6_in lk6_88 rfl rfl ⟨Nat.le_of_ble_eq_true rfl, Nat.le_of_ble_eq_true rfl, Nat.le_of_ble_eq_true rfl, Nat.le_of_ble_eq_true rfl, Nat.le_of_ble_eq_true rfl⟩ dX6_report_15 (fun r15 σ15 => ?_)
    refine j_zne 27 C dX6_report_18 (by decide) ?_ ?_
    · refine j_iload_n 2 C dX6_report_27 rfl rfl ?_
      refine j_iconst (v := 0) 0 C dX6_report_28 (by decide) ?_
      refine j_iconst (v := 1) 1 C dX6_report_29 (by decide) ?_
      refine j_callSI [.int x2, .int 0, .int 1] (con6_in N x2 0 1) C mi6_in ms6_in lk6_88 rfl rfl ⟨Nat.le_of_ble_eq_true rfl, Nat.le_of_ble_eq_true rfl, Nat.le_of_ble_eq_true rfl, Nat.le_of_ble_eq_true rfl, Nat.le_of_ble_eq_true rfl⟩ dX6_report_30 (fun r30 σ30 => ?_)
      refine j_zne 42 C dX6_report_33 (by decide) ?_ ?_
      · refine j_iload_n 2 C dX6_report_42 rfl rfl ?_
        refine j_zne 52 C dX6_report_43 (by decide) ?_ ?_
        · refine j_iload_n 1 C dX6_report_52 rfl rfl ?_
          refine j_zne 63 C dX6_report_53 (by decide) ?_ ?_
          · refine j_aload_n 0 C dX6_report_63 rfl rfl ?_
            refine j_get 22 C fl6_78 (by decide) (ct_84 E _) rfl dX6_report_64 ?_
            exact j_iret C hr hlocks rfl dX6_report_67 (Nat.le_of_ble_eq_true rfl) (Nat.le_of_ble_eq_true rfl)
          · refine j_aload_n 0 C dX6_report_56 rfl rfl ?_
            refine j_get 21 C fl6_75 (by decide) (ct_84 E _) rfl dX6_report_57 ?_
            refine j_goto 67 C dX6_report_60 (by decide) ?_
            exact j_iret C hr hlocks rfl dX6_report_67 (Nat.le_of_ble_eq_true rfl) (Nat.le_of_ble_eq_true rfl)
        · refine j_iconst (v := 1) 1 C dX6_report_46 (by decide) ?_
          refine j_iload_n 1 C dX6_report_47 rfl rfl ?_
          refine j_iadd C dX6_report_48 ?_
          refine j_goto 67 C dX6_report_49 (by decide) ?_
          exact j_iret C hr hlocks rfl dX6_report_67 (Nat.le_of_ble_eq_true rfl) (Nat.le_of_ble_eq_true rfl)
      · refine j_aload_n 0 C dX6_report_36 rfl rfl ?_
        refine j_iconst (v := 2) 2 C dX6_report_37 (by decide) ?_
        refine j_callVI [.int 2] (con6_fails N 2) C mi6_fails mv6_fails lk6_99 (by decide) (ct_84 E _) rfl rfl rfl ⟨Nat.le_of_ble_eq_true rfl, Nat.le_of_ble_eq_true rfl, Nat.le_of_ble_eq_true rfl, Nat.le_of_ble_eq_true rfl, Nat.le_of_ble_eq_true rfl⟩ dX6_report_38 (fun r38 σ38 => ?_)
        exact j_iret C hr hlocks rfl dX6_report_41 (Nat.le_of_ble_eq_true rfl) (Nat.le_of_ble_eq_true rfl)
    · exact j_sub [0] rfl (wJ21 σ15)
set_option maxHeartbeats 4000000 in
set_option maxRecDepth 100000 in
theorem con6_undo (N : Nat) : ConI yX6_undo cX6_undo 1 .int rm6_undo (fun E => [.ref (ea E 84)]) (f6_undo N) := by
  refine conI_of (L := fun E => [(0, .ref (ea E 84))]) (by decide) (fun _ => Nat.le_of_ble_eq_true rfl) (fun _ => rfl) ?_
  intro l E σ p e s m args below meth c C hr hlocks
  unfold f6_undo
  refine j_aload_n 0 C dX6_undo_0 rfl rfl ?_
  refine j_iconst (v := 0) 0 C dX6_undo_1 (by decide) ?_
  refine j_put 0 C fl6_3 rfl rfl rfl (by decide) (ct_84 E _) (Nat.le_of_ble_eq_true rfl) (ct_84 E _) dX6_undo_2 ?_
  refine j_aload_n 0 C dX6_undo_5 rfl rfl ?_
  refine j_get 5 C fl6_26 (by decide) (ct_84 E _) rfl dX6_undo_6 ?_
  refine j_zne 18 C dX6_undo_9 (by decide) ?_ ?_
  · refine j_aload_n 0 C dX6_undo_18 rfl rfl ?_
    refine j_dup C dX6_undo_19 rfl ?_
    refine j_get 5 C fl6_26 (by decide) (ct_84 E _) rfl dX6_undo_20 ?_
    refine j_iconst (v := 1) 1 C dX6_undo_23 (by decide) ?_
    refine j_isub C dX6_undo_24 ?_
    refine j_put 5 C fl6_26 rfl rfl rfl (by decide) (ct_84 E _) (Nat.le_of_ble_eq_true rfl) (ct_84 E _) dX6_undo_25 ?_
    refine j_aload_n 0 C dX6_undo_28 rfl rfl ?_
    refine j_get 4 C fl6_23 (by decide) (ct_84 E _) rfl dX6_undo_29 ?_
    refine j_sipush (v := 166) 166 C dX6_undo_32 (by decide) ?_
    refine j_aload_n 0 C dX6_undo_35 rfl rfl ?_
    refine j_get 5 C fl6_26 (by decide) (ct_84 E _) rfl dX6_undo_36 ?_
    refine j_imul C dX6_undo_39 ?_
    refine j_aload_n 0 C dX6_undo_40 rfl rfl ?_
    refine j_get 1 C fl6_13 (by decide) (ct_84 E _) rfl dX6_undo_41 ?_
    refine j_iconst (v := 0) 0 C dX6_undo_44 (by decide) ?_
    refine j_callSV [.ref (ea E 88), .int (166 * ((st (st σ 84 0 0) 84 5 (((st σ 84 0 0) 84 5) - 1)) 84 5)), .ref (ea E 85), .int 0] (con6_copies N 88 1328 85 166 (166 * ((st (st σ 84 0 0) 84 5 (((st σ 84 0 0) 84 5) - 1)) 84 5)) 0 ⟨(by decide), fun _ _ => rfl⟩ ⟨(by decide), fun _ _ => rfl⟩) C mi6_copies ms6_copies lk6_84 rfl rfl ⟨Nat.le_of_ble_eq_true rfl, Nat.le_of_ble_eq_true rfl, Nat.le_of_ble_eq_true rfl, Nat.le_of_ble_eq_true rfl, Nat.le_of_ble_eq_true rfl⟩ dX6_undo_45 (fun σ45 => ?_)
    refine j_aload_n 0 C dX6_undo_48 rfl rfl ?_
    refine j_get 5 C fl6_26 (by decide) (ct_84 E _) rfl dX6_undo_49 ?_
    exact j_iret C hr hlocks rfl dX6_undo_52 (Nat.le_of_ble_eq_true rfl) (Nat.le_of_ble_eq_true rfl)
  · refine j_aload_n 0 C dX6_undo_12 rfl rfl ?_
    refine j_iconst (v := 1) 1 C dX6_undo_13 (by decide) ?_
    refine j_callVI [.int 1] (con6_fails N 1) C mi6_fails mv6_fails lk6_99 (by decide) (ct_84 E _) rfl rfl rfl ⟨Nat.le_of_ble_eq_true rfl, Nat.le_of_ble_eq_true rfl, Nat.le_of_ble_eq_true rfl, Nat.le_of_ble_eq_true rfl, Nat.le_of_ble_eq_true rfl⟩ dX6_undo_14 (fun r14 σ14 => ?_)
    exact j_iret C hr hlocks rfl dX6_undo_17 (Nat.le_of_ble_eq_true rfl) (Nat.le_of_ble_eq_true rfl)
set_option maxHeartbeats 4000000 in
set_option maxRecDepth 100000 in
theorem con6_save (N : Nat) : ConI yX6_save cX6_save 1 .int rm6_save (fun E => [.ref (ea E 84)]) (f6_save N) := by
  refine conI_of (L := fun E => [(0, .ref (ea E 84))]) (by decide) (fun _ => Nat.le_of_ble_eq_true rfl) (fun _ => rfl) ?_
  intro l E σ p e s m args below meth c C hr hlocks
  unfold f6_save
  refine j_aload_n 0 C dX6_save_0 rfl rfl ?_
  refine j_iconst (v := 0) 0 C dX6_save_1 (by decide) ?_
  refine j_put 0 C fl6_3 rfl rfl rfl (by decide) (ct_84 E _) (Nat.le_of_ble_eq_true rfl) (ct_84 E _) dX6_save_2 ?_
  refine j_aload_n 0 C dX6_save_5 rfl rfl ?_
  refine j_get 1 C fl6_13 (by decide) (ct_84 E _) rfl dX6_save_6 ?_
  refine j_iconst (v := 0) 0 C dX6_save_9 (by decide) ?_
  refine j_aload_n 0 C dX6_save_10 rfl rfl ?_
  refine j_get 3 C fl6_20 (by decide) (ct_84 E _) rfl dX6_save_11 ?_
  refine j_iconst (v := 0) 0 C dX6_save_14 (by decide) ?_
  refine j_callSV [.ref (ea E 85), .int 0, .ref (ea E 87), .int 0] (con6_copies N 85 166 87 166 0 0 ⟨(by decide), fun _ _ => rfl⟩ ⟨(by decide), fun _ _ => rfl⟩) C mi6_copies ms6_copies lk6_84 rfl rfl ⟨Nat.le_of_ble_eq_true rfl, Nat.le_of_ble_eq_true rfl, Nat.le_of_ble_eq_true rfl, Nat.le_of_ble_eq_true rfl, Nat.le_of_ble_eq_true rfl⟩ dX6_save_15 (fun σ15 => ?_)
  refine j_aload_n 0 C dX6_save_18 rfl rfl ?_
  refine j_iconst (v := 1) 1 C dX6_save_19 (by decide) ?_
  refine j_put 6 C fl6_29 rfl rfl rfl (by decide) (ct_84 E _) (Nat.le_of_ble_eq_true rfl) (ct_84 E _) dX6_save_20 ?_
  refine j_aload_n 0 C dX6_save_23 rfl rfl ?_
  refine j_iconst (v := 1) 1 C dX6_save_24 (by decide) ?_
  refine j_callVI [.int 1] (con6_many N 1) C mi6_many mv6_many lk6_144 (by decide) (ct_84 E _) rfl rfl rfl ⟨Nat.le_of_ble_eq_true rfl, Nat.le_of_ble_eq_true rfl, Nat.le_of_ble_eq_true rfl, Nat.le_of_ble_eq_true rfl, Nat.le_of_ble_eq_true rfl⟩ dX6_save_25 (fun r25 σ25 => ?_)
  exact j_iret C hr hlocks rfl dX6_save_28 (Nat.le_of_ble_eq_true rfl) (Nat.le_of_ble_eq_true rfl)
set_option maxHeartbeats 4000000 in
set_option maxRecDepth 100000 in
theorem con6_restore (N : Nat) : ConI yX6_restore cX6_restore 1 .int rm6_restore (fun E => [.ref (ea E 84)]) (f6_restore N) := by
  refine conI_of (L := fun E => [(0, .ref (ea E 84))]) (by decide) (fun _ => Nat.le_of_ble_eq_true rfl) (fun _ => rfl) ?_
  intro l E σ p e s m args below meth c C hr hlocks
  unfold f6_restore
  refine j_aload_n 0 C dX6_restore_0 rfl rfl ?_
  refine j_iconst (v := 0) 0 C dX6_restore_1 (by decide) ?_
  refine j_put 0 C fl6_3 rfl rfl rfl (by decide) (ct_84 E _) (Nat.le_of_ble_eq_true rfl) (ct_84 E _) dX6_restore_2 ?_
  refine j_aload_n 0 C dX6_restore_5 rfl rfl ?_
  refine j_get 6 C fl6_29 (by decide) (ct_84 E _) rfl dX6_restore_6 ?_
  refine j_zne 18 C dX6_restore_9 (by decide) ?_ ?_
  · refine j_aload_n 0 C dX6_restore_18 rfl rfl ?_
    refine j_get 3 C fl6_20 (by decide) (ct_84 E _) rfl dX6_restore_19 ?_
    refine j_iconst (v := 0) 0 C dX6_restore_22 (by decide) ?_
    refine j_aload_n 0 C dX6_restore_23 rfl rfl ?_
    refine j_get 1 C fl6_13 (by decide) (ct_84 E _) rfl dX6_restore_24 ?_
    refine j_iconst (v := 0) 0 C dX6_restore_27 (by decide) ?_
    refine j_callSV [.ref (ea E 87), .int 0, .ref (ea E 85), .int 0] (con6_copies N 87 166 85 166 0 0 ⟨(by decide), fun _ _ => rfl⟩ ⟨(by decide), fun _ _ => rfl⟩) C mi6_copies ms6_copies lk6_84 rfl rfl ⟨Nat.le_of_ble_eq_true rfl, Nat.le_of_ble_eq_true rfl, Nat.le_of_ble_eq_true rfl, Nat.le_of_ble_eq_true rfl, Nat.le_of_ble_eq_true rfl⟩ dX6_restore_28 (fun σ28 => ?_)
    refine j_aload_n 0 C dX6_restore_31 rfl rfl ?_
    refine j_iconst (v := 0) 0 C dX6_restore_32 (by decide) ?_
    refine j_put 5 C fl6_26 rfl rfl rfl (by decide) (ct_84 E _) (Nat.le_of_ble_eq_true rfl) (ct_84 E _) dX6_restore_33 ?_
    refine j_aload_n 0 C dX6_restore_36 rfl rfl ?_
    refine j_iconst (v := 1) 1 C dX6_restore_37 (by decide) ?_
    refine j_callVI [.int 1] (con6_many N 1) C mi6_many mv6_many lk6_144 (by decide) (ct_84 E _) rfl rfl rfl ⟨Nat.le_of_ble_eq_true rfl, Nat.le_of_ble_eq_true rfl, Nat.le_of_ble_eq_true rfl, Nat.le_of_ble_eq_true rfl, Nat.le_of_ble_eq_true rfl⟩ dX6_restore_38 (fun r38 σ38 => ?_)
    exact j_iret C hr hlocks rfl dX6_restore_41 (Nat.le_of_ble_eq_true rfl) (Nat.le_of_ble_eq_true rfl)
  · refine j_aload_n 0 C dX6_restore_12 rfl rfl ?_
    refine j_iconst (v := 1) 1 C dX6_restore_13 (by decide) ?_
    refine j_callVI [.int 1] (con6_fails N 1) C mi6_fails mv6_fails lk6_99 (by decide) (ct_84 E _) rfl rfl rfl ⟨Nat.le_of_ble_eq_true rfl, Nat.le_of_ble_eq_true rfl, Nat.le_of_ble_eq_true rfl, Nat.le_of_ble_eq_true rfl, Nat.le_of_ble_eq_true rfl⟩ dX6_restore_14 (fun r14 σ14 => ?_)
    exact j_iret C hr hlocks rfl dX6_restore_17 (Nat.le_of_ble_eq_true rfl) (Nat.le_of_ble_eq_true rfl)
