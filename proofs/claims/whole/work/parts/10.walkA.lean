set_option maxHeartbeats 4000000 in
set_option maxRecDepth 100000 in
theorem con0_isFull (N : Nat) : ConI yX0_isFull cX0_isFull 1 .boolean rm0_isFull (fun E => [.ref (ea E 79)]) (f0_isFull N) := by
  refine conI_of (L := fun E => [(0, .ref (ea E 79))]) (by decide) (fun _ => Nat.le_of_ble_eq_true rfl) (fun _ => rfl) ?_
  intro l E σ p e s m args below meth c C hr hlocks
  unfold f0_isFull
  refine j_aload_n 0 C dX0_isFull_0 rfl rfl ?_
  refine j_get 1 C fl0_25 (by decide) (ct_79 E _) rfl dX0_isFull_1 ?_
  refine j_bipush (v := 80) 80 C dX0_isFull_4 (by decide) ?_
  refine j_ilt 13 C dX0_isFull_6 (by decide) ?_ ?_
  · refine j_iconst (v := 0) 0 C dX0_isFull_13 (by decide) ?_
    exact j_iret C hr hlocks rfl dX0_isFull_14 (Nat.le_of_ble_eq_true rfl) (Nat.le_of_ble_eq_true rfl)
  · refine j_iconst (v := 1) 1 C dX0_isFull_9 (by decide) ?_
    refine j_goto 14 C dX0_isFull_10 (by decide) ?_
    exact j_iret C hr hlocks rfl dX0_isFull_14 (Nat.le_of_ble_eq_true rfl) (Nat.le_of_ble_eq_true rfl)
set_option maxHeartbeats 4000000 in
set_option maxRecDepth 100000 in
theorem con0_append (N : Nat) (x1 : Int32) : ConI yX0_append cX0_append 2 .int rm0_append (fun E => [.ref (ea E 79), .int x1]) (f0_append N x1) := by
  refine conI_of (L := fun E => [(0, .ref (ea E 79)), (1, .int x1)]) (by decide) (fun _ => Nat.le_of_ble_eq_true rfl) (fun _ => rfl) ?_
  intro l E σ p e s m args below meth c C hr hlocks
  unfold f0_append
  refine j_aload_n 0 C dX0_append_0 rfl rfl ?_
  refine j_get 1 C fl0_25 (by decide) (ct_79 E _) rfl dX0_append_1 ?_
  refine j_zlt 36 C dX0_append_4 (by decide) ?_ ?_
  · refine j_aload_n 0 C dX0_append_36 rfl rfl ?_
    refine j_get 1 C fl0_25 (by decide) (ct_79 E _) rfl dX0_append_37 ?_
    exact j_iret C hr hlocks rfl dX0_append_40 (Nat.le_of_ble_eq_true rfl) (Nat.le_of_ble_eq_true rfl)
  · refine j_aload_n 0 C dX0_append_7 rfl rfl ?_
    refine j_get 1 C fl0_25 (by decide) (ct_79 E _) rfl dX0_append_8 ?_
    refine j_bipush (v := 80) 80 C dX0_append_11 (by decide) ?_
    refine j_ige 36 C dX0_append_13 (by decide) ?_ ?_
    · refine j_aload_n 0 C dX0_append_36 rfl rfl ?_
      refine j_get 1 C fl0_25 (by decide) (ct_79 E _) rfl dX0_append_37 ?_
      exact j_iret C hr hlocks rfl dX0_append_40 (Nat.le_of_ble_eq_true rfl) (Nat.le_of_ble_eq_true rfl)
    · refine j_aload_n 0 C dX0_append_16 rfl rfl ?_
      refine j_get 0 C fl0_9 (by decide) (ct_79 E _) rfl dX0_append_17 ?_
      refine j_aload_n 0 C dX0_append_20 rfl rfl ?_
      refine j_get 1 C fl0_25 (by decide) (ct_79 E _) rfl dX0_append_21 ?_
      refine j_iload_n 1 C dX0_append_24 rfl rfl ?_
      refine j_cast C (by decide) (ct_80 E) dX0_append_25 ?_
      refine j_aload_n 0 C dX0_append_26 rfl rfl ?_
      refine j_dup C dX0_append_27 rfl ?_
      refine j_get 1 C fl0_25 (by decide) (ct_79 E _) rfl dX0_append_28 ?_
      refine j_iconst (v := 1) 1 C dX0_append_31 (by decide) ?_
      refine j_iadd C dX0_append_32 ?_
      refine j_put 1 C fl0_25 rfl rfl rfl (by decide) (ct_79 E _) (Nat.le_of_ble_eq_true rfl) (ct_79 E _) dX0_append_33 ?_
      refine j_aload_n 0 C dX0_append_36 rfl rfl ?_
      refine j_get 1 C fl0_25 (by decide) (ct_79 E _) rfl dX0_append_37 ?_
      exact j_iret C hr hlocks rfl dX0_append_40 (Nat.le_of_ble_eq_true rfl) (Nat.le_of_ble_eq_true rfl)
set_option maxHeartbeats 4000000 in
set_option maxRecDepth 100000 in
theorem con0_sizeOf (N : Nat) (x0 : Int32) : ConI yX0_sizeOf cX0_sizeOf 1 .int rm0_sizeOf (fun E => [.int x0]) (f0_sizeOf N x0) := by
  refine conI_of (L := fun E => [(0, .int x0)]) (by decide) (fun _ => Nat.le_of_ble_eq_true rfl) (fun _ => rfl) ?_
  intro l E σ p e s m args below meth c C hr hlocks
  unfold f0_sizeOf
  refine j_iload_n 0 C dX0_sizeOf_0 rfl rfl ?_
  refine j_ite (fun q1_0 => ?_) (fun q1_0 => ?_)
  · refine j_lin 46 C dX0_sizeOf_1 q1_0 (by decide) rfl (by decide) ?_
    refine j_bipush (v := 6) 6 C dX0_sizeOf_46 (by decide) ?_
    exact j_iret C hr hlocks rfl dX0_sizeOf_48 (Nat.le_of_ble_eq_true rfl) (Nat.le_of_ble_eq_true rfl)
  refine j_ite (fun q1_1 => ?_) (fun q1_1 => ?_)
  · refine j_lin 51 C dX0_sizeOf_1 q1_1 (by decide) rfl (by decide) ?_
    refine j_iconst (v := 2) 2 C dX0_sizeOf_51 (by decide) ?_
    exact j_iret C hr hlocks rfl dX0_sizeOf_52 (Nat.le_of_ble_eq_true rfl) (Nat.le_of_ble_eq_true rfl)
  refine j_ite (fun q1_2 => ?_) (fun q1_2 => ?_)
  · refine j_lin 49 C dX0_sizeOf_1 q1_2 (by decide) rfl (by decide) ?_
    refine j_iconst (v := 3) 3 C dX0_sizeOf_49 (by decide) ?_
    exact j_iret C hr hlocks rfl dX0_sizeOf_50 (Nat.le_of_ble_eq_true rfl) (Nat.le_of_ble_eq_true rfl)
  refine j_ite (fun q1_3 => ?_) (fun q1_3 => ?_)
  · refine j_lin 44 C dX0_sizeOf_1 q1_3 (by decide) rfl (by decide) ?_
    refine j_iconst (v := 5) 5 C dX0_sizeOf_44 (by decide) ?_
    exact j_iret C hr hlocks rfl dX0_sizeOf_45 (Nat.le_of_ble_eq_true rfl) (Nat.le_of_ble_eq_true rfl)
  refine j_lout (off := 52) 53 C dX0_sizeOf_1 (by decide) ((lv_osw q1_0 (by decide)).trans ((lv_osw q1_1 (by decide)).trans ((lv_osw q1_2 (by decide)).trans ((lv_osw q1_3 (by decide)).trans rfl)))) (by decide) ?_
  refine j_iconst (v := 0) 0 C dX0_sizeOf_53 (by decide) ?_
  exact j_iret C hr hlocks rfl dX0_sizeOf_54 (Nat.le_of_ble_eq_true rfl) (Nat.le_of_ble_eq_true rfl)
set_option maxHeartbeats 4000000 in
set_option maxRecDepth 100000 in
theorem con0_startNumber (N : Nat) : ConV yX0_startNumber cX0_startNumber 1 rm0_startNumber (fun E => [.ref (ea E 79)]) (f0_startNumber N) := by
  refine conV_of (L := fun E => [(0, .ref (ea E 79))]) (by decide) (fun _ => Nat.le_of_ble_eq_true rfl) (fun _ => rfl) ?_
  intro l E σ p e s m args below meth c C hr hlocks
  have wJ36 : ∀ (σ : Hp), J E 1 p l e rm0_startNumber s m args below meth c (QV E below args s rm0_startNumber.cells rm0_startNumber.slots) (f0_startNumber_J36 N σ) 36 [(0, .ref (ea E 79))] [] σ 0 0 := by
    intro σ
    unfold f0_startNumber_J36
    refine j_aload_n 0 C dX0_startNumber_36 rfl rfl ?_
    refine j_dup C dX0_startNumber_37 rfl ?_
    refine j_get 8 C fl0_57 (by decide) (ct_79 E _) rfl dX0_startNumber_38 ?_
    refine j_iconst (v := 1) 1 C dX0_startNumber_41 (by decide) ?_
    refine j_isub C dX0_startNumber_42 ?_
    refine j_put 8 C fl0_57 rfl rfl rfl (by decide) (ct_79 E _) (Nat.le_of_ble_eq_true rfl) (ct_79 E _) dX0_startNumber_43 ?_
    refine j_aload_n 0 C dX0_startNumber_46 rfl rfl ?_
    refine j_iconst (v := 0) 0 C dX0_startNumber_47 (by decide) ?_
    refine j_put 9 C fl0_54 rfl rfl rfl (by decide) (ct_79 E _) (Nat.le_of_ble_eq_true rfl) (ct_79 E _) dX0_startNumber_48 ?_
    exact j_vret C hr hlocks dX0_startNumber_51 (Nat.le_of_ble_eq_true rfl) (Nat.le_of_ble_eq_true rfl)
  unfold f0_startNumber
  refine j_aload_n 0 C dX0_startNumber_0 rfl rfl ?_
  refine j_get 6 C fl0_32 (by decide) (ct_79 E _) rfl dX0_startNumber_1 ?_
  refine j_zlt 36 C dX0_startNumber_4 (by decide) ?_ ?_
  · exact j_sub [0] rfl (wJ36 σ)
  · refine j_aload_n 0 C dX0_startNumber_7 rfl rfl ?_
    refine j_get 6 C fl0_32 (by decide) (ct_79 E _) rfl dX0_startNumber_8 ?_
    refine j_bipush (v := 80) 80 C dX0_startNumber_11 (by decide) ?_
    refine j_ige 36 C dX0_startNumber_13 (by decide) ?_ ?_
    · exact j_sub [0] rfl (wJ36 σ)
    · refine j_aload_n 0 C dX0_startNumber_16 rfl rfl ?_
      refine j_get 5 C fl0_22 (by decide) (ct_79 E _) rfl dX0_startNumber_17 ?_
      refine j_aload_n 0 C dX0_startNumber_20 rfl rfl ?_
      refine j_get 6 C fl0_32 (by decide) (ct_79 E _) rfl dX0_startNumber_21 ?_
      refine j_iconst (v := 0) 0 C dX0_startNumber_24 (by decide) ?_
      refine j_iast C (by decide) (ct_83 E) dX0_startNumber_25 ?_
      refine j_aload_n 0 C dX0_startNumber_26 rfl rfl ?_
      refine j_dup C dX0_startNumber_27 rfl ?_
      refine j_get 6 C fl0_32 (by decide) (ct_79 E _) rfl dX0_startNumber_28 ?_
      refine j_iconst (v := 1) 1 C dX0_startNumber_31 (by decide) ?_
      refine j_iadd C dX0_startNumber_32 ?_
      refine j_put 6 C fl0_32 rfl rfl rfl (by decide) (ct_79 E _) (Nat.le_of_ble_eq_true rfl) (ct_79 E _) dX0_startNumber_33 ?_
      exact j_sub [0] rfl (wJ36 (st (st σ 83 (σ 79 6).toNatClampNeg 0) 79 6 (((st σ 83 (σ 79 6).toNatClampNeg 0) 79 6) + 1)))
set_option maxHeartbeats 4000000 in
set_option maxRecDepth 100000 in
theorem con0_startCommand (N : Nat) (x1 : Int32) : ConI yX0_startCommand cX0_startCommand 3 .boolean rm0_startCommand (fun E => [.ref (ea E 79), .int x1]) (f0_startCommand N x1) := by
  refine conI_of (L := fun E => [(0, .ref (ea E 79)), (1, .int x1)]) (by decide) (fun _ => Nat.le_of_ble_eq_true rfl) (fun _ => rfl) ?_
  intro l E σ p e s m args below meth c C hr hlocks
  unfold f0_startCommand
  refine j_iload_n 1 C dX0_startCommand_0 rfl rfl ?_
  refine j_callSI [.int x1] (con0_sizeOf N x1) C mi0_sizeOf ms0_sizeOf lk0_63 rfl rfl ⟨Nat.le_of_ble_eq_true rfl, Nat.le_of_ble_eq_true rfl, Nat.le_of_ble_eq_true rfl, Nat.le_of_ble_eq_true rfl, Nat.le_of_ble_eq_true rfl⟩ dX0_startCommand_1 (fun r1 σ1 => ?_)
  refine j_istore_n [(2, .int r1), (0, .ref (ea E 79)), (1, .int x1)] C dX0_startCommand_4 rfl (by decide) rfl ?_
  refine j_iload_n 0 C dX0_startCommand_5 rfl rfl ?_
  refine j_zeq 25 C dX0_startCommand_6 (by decide) ?_ ?_
  · refine j_iconst (v := 0) 0 C dX0_startCommand_25 (by decide) ?_
    exact j_iret C hr hlocks rfl dX0_startCommand_26 (Nat.le_of_ble_eq_true rfl) (Nat.le_of_ble_eq_true rfl)
  · refine j_aload_n 1 C dX0_startCommand_9 rfl rfl ?_
    refine j_get 4 C fl0_29 (by decide) (ct_79 E _) rfl dX0_startCommand_10 ?_
    refine j_zlt 25 C dX0_startCommand_13 (by decide) ?_ ?_
    · refine j_iconst (v := 0) 0 C dX0_startCommand_25 (by decide) ?_
      exact j_iret C hr hlocks rfl dX0_startCommand_26 (Nat.le_of_ble_eq_true rfl) (Nat.le_of_ble_eq_true rfl)
    · refine j_aload_n 1 C dX0_startCommand_16 rfl rfl ?_
      refine j_get 4 C fl0_29 (by decide) (ct_79 E _) rfl dX0_startCommand_17 ?_
      refine j_bipush (v := 80) 80 C dX0_startCommand_20 (by decide) ?_
      refine j_ilt 27 C dX0_startCommand_22 (by decide) ?_ ?_
      · refine j_aload_n 1 C dX0_startCommand_27 rfl rfl ?_
        refine j_get 2 C fl0_15 (by decide) (ct_79 E _) rfl dX0_startCommand_28 ?_
        refine j_aload_n 1 C dX0_startCommand_31 rfl rfl ?_
        refine j_get 4 C fl0_29 (by decide) (ct_79 E _) rfl dX0_startCommand_32 ?_
        refine j_iload_n 2 C dX0_startCommand_35 rfl rfl ?_
        refine j_cast C (by decide) (ct_81 E) dX0_startCommand_36 ?_
        refine j_aload_n 1 C dX0_startCommand_37 rfl rfl ?_
        refine j_get 3 C fl0_18 (by decide) (ct_79 E _) rfl dX0_startCommand_38 ?_
        refine j_aload_n 1 C dX0_startCommand_41 rfl rfl ?_
        refine j_get 4 C fl0_29 (by decide) (ct_79 E _) rfl dX0_startCommand_42 ?_
        refine j_aload_n 1 C dX0_startCommand_45 rfl rfl ?_
        refine j_get 6 C fl0_32 (by decide) (ct_79 E _) rfl dX0_startCommand_46 ?_
        refine j_iast C (by decide) (ct_82 E) dX0_startCommand_49 ?_
        refine j_aload_n 1 C dX0_startCommand_50 rfl rfl ?_
        refine j_dup C dX0_startCommand_51 rfl ?_
        refine j_get 4 C fl0_29 (by decide) (ct_79 E _) rfl dX0_startCommand_52 ?_
        refine j_iconst (v := 1) 1 C dX0_startCommand_55 (by decide) ?_
        refine j_iadd C dX0_startCommand_56 ?_
        refine j_put 4 C fl0_29 rfl rfl rfl (by decide) (ct_79 E _) (Nat.le_of_ble_eq_true rfl) (ct_79 E _) dX0_startCommand_57 ?_
        refine j_aload_n 1 C dX0_startCommand_60 rfl rfl ?_
        refine j_iconst (v := 0) 0 C dX0_startCommand_61 (by decide) ?_
        refine j_put 7 C fl0_35 rfl rfl rfl (by decide) (ct_79 E _) (Nat.le_of_ble_eq_true rfl) (ct_79 E _) dX0_startCommand_62 ?_
        refine j_aload_n 1 C dX0_startCommand_65 rfl rfl ?_
        refine j_iload_n 0 C dX0_startCommand_66 rfl rfl ?_
        refine j_put 8 C fl0_57 rfl rfl rfl (by decide) (ct_79 E _) (Nat.le_of_ble_eq_true rfl) (ct_79 E _) dX0_startCommand_67 ?_
        refine j_aload_n 1 C dX0_startCommand_70 rfl rfl ?_
        refine j_callVV [] (con0_startNumber N) C mi0_startNumber mv0_startNumber lk0_60 (by decide) (ct_79 E _) rfl rfl rfl ⟨Nat.le_of_ble_eq_true rfl, Nat.le_of_ble_eq_true rfl, Nat.le_of_ble_eq_true rfl, Nat.le_of_ble_eq_true rfl, Nat.le_of_ble_eq_true rfl⟩ dX0_startCommand_71 (fun σ71 => ?_)
        refine j_iconst (v := 1) 1 C dX0_startCommand_74 (by decide) ?_
        exact j_iret C hr hlocks rfl dX0_startCommand_75 (Nat.le_of_ble_eq_true rfl) (Nat.le_of_ble_eq_true rfl)
      · refine j_iconst (v := 0) 0 C dX0_startCommand_25 (by decide) ?_
        exact j_iret C hr hlocks rfl dX0_startCommand_26 (Nat.le_of_ble_eq_true rfl) (Nat.le_of_ble_eq_true rfl)
set_option maxHeartbeats 4000000 in
set_option maxRecDepth 100000 in
theorem con0_addDigit (N : Nat) (x1 : Int32) : ConI yX0_addDigit cX0_addDigit 3 .boolean rm0_addDigit (fun E => [.ref (ea E 79), .int x1]) (f0_addDigit N x1) := by
  refine conI_of (L := fun E => [(0, .ref (ea E 79)), (1, .int x1)]) (by decide) (fun _ => Nat.le_of_ble_eq_true rfl) (fun _ => rfl) ?_
  intro l E σ p e s m args below meth c C hr hlocks
  unfold f0_addDigit
  refine j_aload_n 0 C dX0_addDigit_0 rfl rfl ?_
  refine j_get 9 C fl0_54 (by decide) (ct_79 E _) rfl dX0_addDigit_1 ?_
  refine j_iconst (v := 3) 3 C dX0_addDigit_4 (by decide) ?_
  refine j_ilt 10 C dX0_addDigit_5 (by decide) ?_ ?_
  · refine j_aload_n 0 C dX0_addDigit_10 rfl rfl ?_
    refine j_get 6 C fl0_32 (by decide) (ct_79 E _) rfl dX0_addDigit_11 ?_
    refine j_iconst (v := 1) 1 C dX0_addDigit_14 (by decide) ?_
    refine j_isub C dX0_addDigit_15 ?_
    refine j_istore_n [(2, .int ((σ 79 6) - 1)), (0, .ref (ea E 79)), (1, .int x1)] C dX0_addDigit_16 rfl (by decide) rfl ?_
    refine j_iload_n 0 C dX0_addDigit_17 rfl rfl ?_
    refine j_zlt 27 C dX0_addDigit_18 (by decide) ?_ ?_
    · refine j_iconst (v := 0) 0 C dX0_addDigit_27 (by decide) ?_
      exact j_iret C hr hlocks rfl dX0_addDigit_28 (Nat.le_of_ble_eq_true rfl) (Nat.le_of_ble_eq_true rfl)
    · refine j_iload_n 0 C dX0_addDigit_21 rfl rfl ?_
      refine j_bipush (v := 80) 80 C dX0_addDigit_22 (by decide) ?_
      refine j_ilt 29 C dX0_addDigit_24 (by decide) ?_ ?_
      · refine j_aload_n 1 C dX0_addDigit_29 rfl rfl ?_
        refine j_get 5 C fl0_22 (by decide) (ct_79 E _) rfl dX0_addDigit_30 ?_
        refine j_iload_n 0 C dX0_addDigit_33 rfl rfl ?_
        refine j_aload_n 1 C dX0_addDigit_34 rfl rfl ?_
        refine j_get 5 C fl0_22 (by decide) (ct_79 E _) rfl dX0_addDigit_35 ?_
        refine j_iload_n 0 C dX0_addDigit_38 rfl rfl ?_
        refine j_iald C (by decide) (ct_83 E _) dX0_addDigit_39 ?_
        refine j_bipush (v := 10) 10 C dX0_addDigit_40 (by decide) ?_
        refine j_imul C dX0_addDigit_42 ?_
        refine j_iload_n 2 C dX0_addDigit_43 rfl rfl ?_
        refine j_iadd C dX0_addDigit_44 ?_
        refine j_iast C (by decide) (ct_83 E) dX0_addDigit_45 ?_
        refine j_aload_n 1 C dX0_addDigit_46 rfl rfl ?_
        refine j_dup C dX0_addDigit_47 rfl ?_
        refine j_get 9 C fl0_54 (by decide) (ct_79 E _) rfl dX0_addDigit_48 ?_
        refine j_iconst (v := 1) 1 C dX0_addDigit_51 (by decide) ?_
        refine j_iadd C dX0_addDigit_52 ?_
        refine j_put 9 C fl0_54 rfl rfl rfl (by decide) (ct_79 E _) (Nat.le_of_ble_eq_true rfl) (ct_79 E _) dX0_addDigit_53 ?_
        refine j_iconst (v := 1) 1 C dX0_addDigit_56 (by decide) ?_
        exact j_iret C hr hlocks rfl dX0_addDigit_57 (Nat.le_of_ble_eq_true rfl) (Nat.le_of_ble_eq_true rfl)
      · refine j_iconst (v := 0) 0 C dX0_addDigit_27 (by decide) ?_
        exact j_iret C hr hlocks rfl dX0_addDigit_28 (Nat.le_of_ble_eq_true rfl) (Nat.le_of_ble_eq_true rfl)
  · refine j_iconst (v := 0) 0 C dX0_addDigit_8 (by decide) ?_
    exact j_iret C hr hlocks rfl dX0_addDigit_9 (Nat.le_of_ble_eq_true rfl) (Nat.le_of_ble_eq_true rfl)
set_option maxHeartbeats 4000000 in
set_option maxRecDepth 100000 in
theorem con0_isComplete (N : Nat) : ConI yX0_isComplete cX0_isComplete 1 .boolean rm0_isComplete (fun E => [.ref (ea E 79)]) (f0_isComplete N) := by
  refine conI_of (L := fun E => [(0, .ref (ea E 79))]) (by decide) (fun _ => Nat.le_of_ble_eq_true rfl) (fun _ => rfl) ?_
  intro l E σ p e s m args below meth c C hr hlocks
  unfold f0_isComplete
  refine j_aload_n 0 C dX0_isComplete_0 rfl rfl ?_
  refine j_get 7 C fl0_35 (by decide) (ct_79 E _) rfl dX0_isComplete_1 ?_
  refine j_zne 25 C dX0_isComplete_4 (by decide) ?_ ?_
  · refine j_iconst (v := 0) 0 C dX0_isComplete_25 (by decide) ?_
    exact j_iret C hr hlocks rfl dX0_isComplete_26 (Nat.le_of_ble_eq_true rfl) (Nat.le_of_ble_eq_true rfl)
  · refine j_aload_n 0 C dX0_isComplete_7 rfl rfl ?_
    refine j_get 9 C fl0_54 (by decide) (ct_79 E _) rfl dX0_isComplete_8 ?_
    refine j_zle 25 C dX0_isComplete_11 (by decide) ?_ ?_
    · refine j_iconst (v := 0) 0 C dX0_isComplete_25 (by decide) ?_
      exact j_iret C hr hlocks rfl dX0_isComplete_26 (Nat.le_of_ble_eq_true rfl) (Nat.le_of_ble_eq_true rfl)
    · refine j_aload_n 0 C dX0_isComplete_14 rfl rfl ?_
      refine j_get 8 C fl0_57 (by decide) (ct_79 E _) rfl dX0_isComplete_15 ?_
      refine j_zne 25 C dX0_isComplete_18 (by decide) ?_ ?_
      · refine j_iconst (v := 0) 0 C dX0_isComplete_25 (by decide) ?_
        exact j_iret C hr hlocks rfl dX0_isComplete_26 (Nat.le_of_ble_eq_true rfl) (Nat.le_of_ble_eq_true rfl)
      · refine j_iconst (v := 1) 1 C dX0_isComplete_21 (by decide) ?_
        refine j_goto 26 C dX0_isComplete_22 (by decide) ?_
        exact j_iret C hr hlocks rfl dX0_isComplete_26 (Nat.le_of_ble_eq_true rfl) (Nat.le_of_ble_eq_true rfl)
set_option maxHeartbeats 4000000 in
set_option maxRecDepth 100000 in
theorem con0_accepts (N : Nat) (x1 : Int32) : ConI yX0_accepts cX0_accepts 2 .boolean rm0_accepts (fun E => [.ref (ea E 79), .int x1]) (f0_accepts N x1) := by
  refine conI_of (L := fun E => [(0, .ref (ea E 79)), (1, .int x1)]) (by decide) (fun _ => Nat.le_of_ble_eq_true rfl) (fun _ => rfl) ?_
  intro l E σ p e s m args below meth c C hr hlocks
  have wJ60 : ∀ (σ : Hp), J E 2 p l e rm0_accepts s m args below meth c (QI E below args s rm0_accepts.cells rm0_accepts.slots) (f0_accepts_J60 N x1 σ) 60 [(0, .ref (ea E 79)), (1, .int x1)] [] σ 0 0 := by
    intro σ
    unfold f0_accepts_J60
    refine j_iload_n 1 C dX0_accepts_60 rfl rfl ?_
    refine j_bipush (v := 59) 59 C dX0_accepts_61 (by decide) ?_
    refine j_ine 80 C dX0_accepts_63 (by decide) ?_ ?_
    · refine j_iconst (v := 0) 0 C dX0_accepts_80 (by decide) ?_
      exact j_iret C hr hlocks rfl dX0_accepts_81 (Nat.le_of_ble_eq_true rfl) (Nat.le_of_ble_eq_true rfl)
    · refine j_aload_n 0 C dX0_accepts_66 rfl rfl ?_
      refine j_callVI [] (con0_isComplete N) C mi0_isComplete mv0_isComplete lk0_43 (by decide) (ct_79 E _) rfl rfl rfl ⟨Nat.le_of_ble_eq_true rfl, Nat.le_of_ble_eq_true rfl, Nat.le_of_ble_eq_true rfl, Nat.le_of_ble_eq_true rfl, Nat.le_of_ble_eq_true rfl⟩ dX0_accepts_67 (fun r67 σ67 => ?_)
      refine j_zeq 80 C dX0_accepts_70 (by decide) ?_ ?_
      · refine j_iconst (v := 0) 0 C dX0_accepts_80 (by decide) ?_
        exact j_iret C hr hlocks rfl dX0_accepts_81 (Nat.le_of_ble_eq_true rfl) (Nat.le_of_ble_eq_true rfl)
      · refine j_aload_n 0 C dX0_accepts_73 rfl rfl ?_
        refine j_iconst (v := 1) 1 C dX0_accepts_74 (by decide) ?_
        refine j_put 7 C fl0_35 rfl rfl rfl (by decide) (ct_79 E _) (Nat.le_of_ble_eq_true rfl) (ct_79 E _) dX0_accepts_75 ?_
        refine j_iconst (v := 1) 1 C dX0_accepts_78 (by decide) ?_
        exact j_iret C hr hlocks rfl dX0_accepts_79 (Nat.le_of_ble_eq_true rfl) (Nat.le_of_ble_eq_true rfl)
  have wJ34 : ∀ (σ : Hp), J E 2 p l e rm0_accepts s m args below meth c (QI E below args s rm0_accepts.cells rm0_accepts.slots) (f0_accepts_J34 N x1 σ) 34 [(0, .ref (ea E 79)), (1, .int x1)] [] σ 0 0 := by
    intro σ
    unfold f0_accepts_J34
    refine j_iload_n 1 C dX0_accepts_34 rfl rfl ?_
    refine j_bipush (v := 44) 44 C dX0_accepts_35 (by decide) ?_
    refine j_ine 60 C dX0_accepts_37 (by decide) ?_ ?_
    · exact j_sub [0, 1] rfl (wJ60 σ)
    · refine j_aload_n 0 C dX0_accepts_40 rfl rfl ?_
      refine j_get 9 C fl0_54 (by decide) (ct_79 E _) rfl dX0_accepts_41 ?_
      refine j_zle 60 C dX0_accepts_44 (by decide) ?_ ?_
      · exact j_sub [0, 1] rfl (wJ60 σ)
      · refine j_aload_n 0 C dX0_accepts_47 rfl rfl ?_
        refine j_get 8 C fl0_57 (by decide) (ct_79 E _) rfl dX0_accepts_48 ?_
        refine j_zle 60 C dX0_accepts_51 (by decide) ?_ ?_
        · exact j_sub [0, 1] rfl (wJ60 σ)
        · refine j_aload_n 0 C dX0_accepts_54 rfl rfl ?_
          refine j_callVV [] (con0_startNumber N) C mi0_startNumber mv0_startNumber lk0_60 (by decide) (ct_79 E _) rfl rfl rfl ⟨Nat.le_of_ble_eq_true rfl, Nat.le_of_ble_eq_true rfl, Nat.le_of_ble_eq_true rfl, Nat.le_of_ble_eq_true rfl, Nat.le_of_ble_eq_true rfl⟩ dX0_accepts_55 (fun σ55 => ?_)
          refine j_iconst (v := 1) 1 C dX0_accepts_58 (by decide) ?_
          exact j_iret C hr hlocks rfl dX0_accepts_59 (Nat.le_of_ble_eq_true rfl) (Nat.le_of_ble_eq_true rfl)
  unfold f0_accepts
  refine j_aload_n 0 C dX0_accepts_0 rfl rfl ?_
  refine j_get 7 C fl0_35 (by decide) (ct_79 E _) rfl dX0_accepts_1 ?_
  refine j_zeq 13 C dX0_accepts_4 (by decide) ?_ ?_
  · refine j_iload_n 1 C dX0_accepts_13 rfl rfl ?_
    refine j_bipush (v := 48) 48 C dX0_accepts_14 (by decide) ?_
    refine j_ilt 34 C dX0_accepts_16 (by decide) ?_ ?_
    · exact j_sub [0, 1] rfl (wJ34 σ)
    · refine j_iload_n 1 C dX0_accepts_19 rfl rfl ?_
      refine j_bipush (v := 57) 57 C dX0_accepts_20 (by decide) ?_
      refine j_igt 34 C dX0_accepts_22 (by decide) ?_ ?_
      · exact j_sub [0, 1] rfl (wJ34 σ)
      · refine j_aload_n 0 C dX0_accepts_25 rfl rfl ?_
        refine j_iload_n 1 C dX0_accepts_26 rfl rfl ?_
        refine j_bipush (v := 48) 48 C dX0_accepts_27 (by decide) ?_
        refine j_isub C dX0_accepts_29 ?_
        refine j_callVI [.int (x1 - 48)] (con0_addDigit N (x1 - 48)) C mi0_addDigit mv0_addDigit lk0_50 (by decide) (ct_79 E _) rfl rfl rfl ⟨Nat.le_of_ble_eq_true rfl, Nat.le_of_ble_eq_true rfl, Nat.le_of_ble_eq_true rfl, Nat.le_of_ble_eq_true rfl, Nat.le_of_ble_eq_true rfl⟩ dX0_accepts_30 (fun r30 σ30 => ?_)
        exact j_gd (fun hb => j_iret C hr hlocks (nrB hb) dX0_accepts_33 (Nat.le_of_ble_eq_true rfl) (Nat.le_of_ble_eq_true rfl))
  · refine j_aload_n 0 C dX0_accepts_7 rfl rfl ?_
    refine j_iload_n 1 C dX0_accepts_8 rfl rfl ?_
    refine j_callVI [.int x1] (con0_startCommand N x1) C mi0_startCommand mv0_startCommand lk0_47 (by decide) (ct_79 E _) rfl rfl rfl ⟨Nat.le_of_ble_eq_true rfl, Nat.le_of_ble_eq_true rfl, Nat.le_of_ble_eq_true rfl, Nat.le_of_ble_eq_true rfl, Nat.le_of_ble_eq_true rfl⟩ dX0_accepts_9 (fun r9 σ9 => ?_)
    exact j_gd (fun hb => j_iret C hr hlocks (nrB hb) dX0_accepts_12 (Nat.le_of_ble_eq_true rfl) (Nat.le_of_ble_eq_true rfl))
set_option maxHeartbeats 4000000 in
set_option maxRecDepth 100000 in
theorem con0_parseAndEmpty (N : Nat) : ConI yX0_parseAndEmpty cX0_parseAndEmpty 3 .int rm0_parseAndEmpty (fun E => [.ref (ea E 79)]) (f0_parseAndEmpty N) := by
  refine conI_of (L := fun E => [(0, .ref (ea E 79))]) (by decide) (fun _ => Nat.le_of_ble_eq_true rfl) (fun _ => rfl) ?_
  intro l E σ p e s m args below meth c C hr hlocks
  have wL27 : ∀ (x1 : Int32) (K27 : Hp → Option (Int32 × Hp)), (∀ (σ : Hp), J E 3 p l e rm0_parseAndEmpty s m args below meth c (QI E below args s rm0_parseAndEmpty.cells rm0_parseAndEmpty.slots) (K27 σ) 59 [(0, .ref (ea E 79)), (1, .int x1)] [] σ 0 0) → ∀ (n27 : Nat) (x2 : Int32) (σ : Hp), J E 3 p l e rm0_parseAndEmpty s m args below meth c (QI E below args s rm0_parseAndEmpty.cells rm0_parseAndEmpty.slots) (f0_parseAndEmpty_L27 N x1 K27 n27 x2 σ) 27 [(0, .ref (ea E 79)), (1, .int x1), (2, .int x2)] [] σ 0 0 := by
    intro x1 K27 HK27 n27
    induction n27 with
    | zero => intro x2 σ; exact j_none
    | succ n27 ih27 =>
      intro x2 σ
      show J E 3 p l e rm0_parseAndEmpty s m args below meth c (QI E below args s rm0_parseAndEmpty.cells rm0_parseAndEmpty.slots) (f0_parseAndEmpty_B27 N x1 K27 (f0_parseAndEmpty_L27 N x1 K27 n27) x2 σ) 27 [(0, .ref (ea E 79)), (1, .int x1), (2, .int x2)] [] σ 0 0
      unfold f0_parseAndEmpty_B27
      refine j_iload_n 2 C dX0_parseAndEmpty_27 rfl rfl ?_
      refine j_iload_n 1 C dX0_parseAndEmpty_28 rfl rfl ?_
      refine j_ige 59 C dX0_parseAndEmpty_29 (by decide) ?_ ?_
      · exact j_sub [0, 1] rfl (HK27 σ)
      · refine j_iload_n 2 C dX0_parseAndEmpty_32 rfl rfl ?_
        refine j_bipush (v := 80) 80 C dX0_parseAndEmpty_33 (by decide) ?_
        refine j_ige 59 C dX0_parseAndEmpty_35 (by decide) ?_ ?_
        · exact j_sub [0, 1] rfl (HK27 σ)
        · refine j_aload_n 0 C dX0_parseAndEmpty_38 rfl rfl ?_
          refine j_aload_n 0 C dX0_parseAndEmpty_39 rfl rfl ?_
          refine j_get 0 C fl0_9 (by decide) (ct_79 E _) rfl dX0_parseAndEmpty_40 ?_
          refine j_iload_n 2 C dX0_parseAndEmpty_43 rfl rfl ?_
          refine j_cald C (by decide) (ct_80 E _) dX0_parseAndEmpty_44 ?_
          refine j_callVI [.int (σ 80 x2.toNatClampNeg)] (con0_accepts N (σ 80 x2.toNatClampNeg)) C mi0_accepts mv0_accepts lk0_39 (by decide) (ct_79 E _) rfl rfl rfl ⟨Nat.le_of_ble_eq_true rfl, Nat.le_of_ble_eq_true rfl, Nat.le_of_ble_eq_true rfl, Nat.le_of_ble_eq_true rfl, Nat.le_of_ble_eq_true rfl⟩ dX0_parseAndEmpty_45 (fun r45 σ45 => ?_)
          refine j_zne 53 C dX0_parseAndEmpty_48 (by decide) ?_ ?_
          · refine j_iinc 2 1 [(2, .int (x2 + 1)), (0, .ref (ea E 79)), (1, .int x1)] C dX0_parseAndEmpty_53 rfl rfl (by decide) rfl ?_
            refine j_goto 27 C dX0_parseAndEmpty_56 (by decide) ?_
            exact j_sub [1, 2, 0] rfl (ih27 (x2 + 1) σ45)
          · refine j_iload_n 2 C dX0_parseAndEmpty_51 rfl rfl ?_
            exact j_iret C hr hlocks rfl dX0_parseAndEmpty_52 (Nat.le_of_ble_eq_true rfl) (Nat.le_of_ble_eq_true rfl)
  unfold f0_parseAndEmpty
  refine j_aload_n 0 C dX0_parseAndEmpty_0 rfl rfl ?_
  refine j_get 1 C fl0_25 (by decide) (ct_79 E _) rfl dX0_parseAndEmpty_1 ?_
  refine j_istore_n [(1, .int (σ 79 1)), (0, .ref (ea E 79))] C dX0_parseAndEmpty_4 rfl (by decide) rfl ?_
  refine j_aload_n 1 C dX0_parseAndEmpty_5 rfl rfl ?_
  refine j_iconst (v := 0) 0 C dX0_parseAndEmpty_6 (by decide) ?_
  refine j_put 1 C fl0_25 rfl rfl rfl (by decide) (ct_79 E _) (Nat.le_of_ble_eq_true rfl) (ct_79 E _) dX0_parseAndEmpty_7 ?_
  refine j_aload_n 1 C dX0_parseAndEmpty_10 rfl rfl ?_
  refine j_iconst (v := 0) 0 C dX0_parseAndEmpty_11 (by decide) ?_
  refine j_put 4 C fl0_29 rfl rfl rfl (by decide) (ct_79 E _) (Nat.le_of_ble_eq_true rfl) (ct_79 E _) dX0_parseAndEmpty_12 ?_
  refine j_aload_n 1 C dX0_parseAndEmpty_15 rfl rfl ?_
  refine j_iconst (v := 0) 0 C dX0_parseAndEmpty_16 (by decide) ?_
  refine j_put 6 C fl0_32 rfl rfl rfl (by decide) (ct_79 E _) (Nat.le_of_ble_eq_true rfl) (ct_79 E _) dX0_parseAndEmpty_17 ?_
  refine j_aload_n 1 C dX0_parseAndEmpty_20 rfl rfl ?_
  refine j_iconst (v := 1) 1 C dX0_parseAndEmpty_21 (by decide) ?_
  refine j_put 7 C fl0_35 rfl rfl rfl (by decide) (ct_79 E _) (Nat.le_of_ble_eq_true rfl) (ct_79 E _) dX0_parseAndEmpty_22 ?_
  refine j_iconst (v := 0) 0 C dX0_parseAndEmpty_25 (by decide) ?_
  refine j_istore_n [(2, .int 0), (1, .int (σ 79 1)), (0, .ref (ea E 79))] C dX0_parseAndEmpty_26 rfl (by decide) rfl ?_
  refine j_sub [2, 1, 0] rfl (wL27 (σ 79 1) _ (fun σL27 => ?_) N 0 (st (st (st (st σ 79 1 0) 79 4 0) 79 6 0) 79 7 1))
  refine j_aload_n 0 C dX0_parseAndEmpty_59 rfl rfl ?_
  refine j_callVI [] (con0_isComplete N) C mi0_isComplete mv0_isComplete lk0_43 (by decide) (ct_79 E _) rfl rfl rfl ⟨Nat.le_of_ble_eq_true rfl, Nat.le_of_ble_eq_true rfl, Nat.le_of_ble_eq_true rfl, Nat.le_of_ble_eq_true rfl, Nat.le_of_ble_eq_true rfl⟩ dX0_parseAndEmpty_60 (fun r60 σ60 => ?_)
  refine j_zeq 70 C dX0_parseAndEmpty_63 (by decide) ?_ ?_
  · refine j_iload_n 1 C dX0_parseAndEmpty_70 rfl rfl ?_
    exact j_iret C hr hlocks rfl dX0_parseAndEmpty_71 (Nat.le_of_ble_eq_true rfl) (Nat.le_of_ble_eq_true rfl)
  · refine j_iconst (v := (-1)) (-1) C dX0_parseAndEmpty_66 (by decide) ?_
    refine j_goto 71 C dX0_parseAndEmpty_67 (by decide) ?_
    exact j_iret C hr hlocks rfl dX0_parseAndEmpty_71 (Nat.le_of_ble_eq_true rfl) (Nat.le_of_ble_eq_true rfl)
set_option maxHeartbeats 4000000 in
set_option maxRecDepth 100000 in
theorem con0_commandCount (N : Nat) : ConI yX0_commandCount cX0_commandCount 1 .int rm0_commandCount (fun E => [.ref (ea E 79)]) (f0_commandCount N) := by
  refine conI_of (L := fun E => [(0, .ref (ea E 79))]) (by decide) (fun _ => Nat.le_of_ble_eq_true rfl) (fun _ => rfl) ?_
  intro l E σ p e s m args below meth c C hr hlocks
  unfold f0_commandCount
  refine j_aload_n 0 C dX0_commandCount_0 rfl rfl ?_
  refine j_get 4 C fl0_29 (by decide) (ct_79 E _) rfl dX0_commandCount_1 ?_
  exact j_iret C hr hlocks rfl dX0_commandCount_4 (Nat.le_of_ble_eq_true rfl) (Nat.le_of_ble_eq_true rfl)
set_option maxHeartbeats 4000000 in
set_option maxRecDepth 100000 in
theorem con0_isCommand (N : Nat) (x0 : Int32) : ConI yX0_isCommand cX0_isCommand 1 .boolean rm0_isCommand (fun E => [.int x0]) (f0_isCommand N x0) := by
  refine conI_of (L := fun E => [(0, .int x0)]) (by decide) (fun _ => Nat.le_of_ble_eq_true rfl) (fun _ => rfl) ?_
  intro l E σ p e s m args below meth c C hr hlocks
  unfold f0_isCommand
  refine j_iload_n 0 C dX0_isCommand_0 rfl rfl ?_
  refine j_zlt 14 C dX0_isCommand_1 (by decide) ?_ ?_
  · refine j_iconst (v := 0) 0 C dX0_isCommand_14 (by decide) ?_
    exact j_iret C hr hlocks rfl dX0_isCommand_15 (Nat.le_of_ble_eq_true rfl) (Nat.le_of_ble_eq_true rfl)
  · refine j_iload_n 0 C dX0_isCommand_4 rfl rfl ?_
    refine j_bipush (v := 80) 80 C dX0_isCommand_5 (by decide) ?_
    refine j_ige 14 C dX0_isCommand_7 (by decide) ?_ ?_
    · refine j_iconst (v := 0) 0 C dX0_isCommand_14 (by decide) ?_
      exact j_iret C hr hlocks rfl dX0_isCommand_15 (Nat.le_of_ble_eq_true rfl) (Nat.le_of_ble_eq_true rfl)
    · refine j_iconst (v := 1) 1 C dX0_isCommand_10 (by decide) ?_
      refine j_goto 15 C dX0_isCommand_11 (by decide) ?_
      exact j_iret C hr hlocks rfl dX0_isCommand_15 (Nat.le_of_ble_eq_true rfl) (Nat.le_of_ble_eq_true rfl)
set_option maxHeartbeats 4000000 in
set_option maxRecDepth 100000 in
theorem con0_letterOf (N : Nat) (x1 : Int32) : ConI yX0_letterOf cX0_letterOf 2 .char rm0_letterOf (fun E => [.ref (ea E 79), .int x1]) (f0_letterOf N x1) := by
  refine conI_of (L := fun E => [(0, .ref (ea E 79)), (1, .int x1)]) (by decide) (fun _ => Nat.le_of_ble_eq_true rfl) (fun _ => rfl) ?_
  intro l E σ p e s m args below meth c C hr hlocks
  unfold f0_letterOf
  refine j_iload_n 1 C dX0_letterOf_0 rfl rfl ?_
  refine j_callSI [.int x1] (con0_isCommand N x1) C mi0_isCommand ms0_isCommand lk0_67 rfl rfl ⟨Nat.le_of_ble_eq_true rfl, Nat.le_of_ble_eq_true rfl, Nat.le_of_ble_eq_true rfl, Nat.le_of_ble_eq_true rfl, Nat.le_of_ble_eq_true rfl⟩ dX0_letterOf_1 (fun r1 σ1 => ?_)
  refine j_zeq 16 C dX0_letterOf_4 (by decide) ?_ ?_
  · refine j_bipush (v := 32) 32 C dX0_letterOf_16 (by decide) ?_
    exact j_iret C hr hlocks rfl dX0_letterOf_18 (Nat.le_of_ble_eq_true rfl) (Nat.le_of_ble_eq_true rfl)
  · refine j_aload_n 0 C dX0_letterOf_7 rfl rfl ?_
    refine j_get 2 C fl0_15 (by decide) (ct_79 E _) rfl dX0_letterOf_8 ?_
    refine j_iload_n 1 C dX0_letterOf_11 rfl rfl ?_
    refine j_cald C (by decide) (ct_81 E _) dX0_letterOf_12 ?_
    refine j_goto 18 C dX0_letterOf_13 (by decide) ?_
    exact j_gd (fun hb => j_iret C hr hlocks (nrC hb) dX0_letterOf_18 (Nat.le_of_ble_eq_true rfl) (Nat.le_of_ble_eq_true rfl))
set_option maxHeartbeats 4000000 in
set_option maxRecDepth 100000 in
theorem con0_numberOf (N : Nat) (x1 : Int32) (x2 : Int32) : ConI yX0_numberOf cX0_numberOf 4 .int rm0_numberOf (fun E => [.ref (ea E 79), .int x1, .int x2]) (f0_numberOf N x1 x2) := by
  refine conI_of (L := fun E => [(0, .ref (ea E 79)), (1, .int x1), (2, .int x2)]) (by decide) (fun _ => Nat.le_of_ble_eq_true rfl) (fun _ => rfl) ?_
  intro l E σ p e s m args below meth c C hr hlocks
  have wJ19 : ∀ (y0 : Int32) (σ : Hp), J E 4 p l e rm0_numberOf s m args below meth c (QI E below args s rm0_numberOf.cells rm0_numberOf.slots) (f0_numberOf_J19 N x1 x2 y0 σ) 19 [(0, .ref (ea E 79))] [.int y0] σ 0 0 := by
    intro y0 σ
    unfold f0_numberOf_J19
    refine j_istore_n [(3, .int y0), (0, .ref (ea E 79))] C dX0_numberOf_19 rfl (by decide) rfl ?_
    refine j_iload_n 0 C dX0_numberOf_20 rfl rfl ?_
    refine j_zlt 39 C dX0_numberOf_21 (by decide) ?_ ?_
    · refine j_iconst (v := 0) 0 C dX0_numberOf_39 (by decide) ?_
      exact j_iret C hr hlocks rfl dX0_numberOf_40 (Nat.le_of_ble_eq_true rfl) (Nat.le_of_ble_eq_true rfl)
    · refine j_iload_n 0 C dX0_numberOf_24 rfl rfl ?_
      refine j_bipush (v := 80) 80 C dX0_numberOf_25 (by decide) ?_
      refine j_ige 39 C dX0_numberOf_27 (by decide) ?_ ?_
      · refine j_iconst (v := 0) 0 C dX0_numberOf_39 (by decide) ?_
        exact j_iret C hr hlocks rfl dX0_numberOf_40 (Nat.le_of_ble_eq_true rfl) (Nat.le_of_ble_eq_true rfl)
      · refine j_aload_n 1 C dX0_numberOf_30 rfl rfl ?_
        refine j_get 5 C fl0_22 (by decide) (ct_79 E _) rfl dX0_numberOf_31 ?_
        refine j_iload_n 0 C dX0_numberOf_34 rfl rfl ?_
        refine j_iald C (by decide) (ct_83 E _) dX0_numberOf_35 ?_
        refine j_goto 40 C dX0_numberOf_36 (by decide) ?_
        exact j_iret C hr hlocks rfl dX0_numberOf_40 (Nat.le_of_ble_eq_true rfl) (Nat.le_of_ble_eq_true rfl)
  unfold f0_numberOf
  refine j_iload_n 1 C dX0_numberOf_0 rfl rfl ?_
  refine j_callSI [.int x1] (con0_isCommand N x1) C mi0_isCommand ms0_isCommand lk0_67 rfl rfl ⟨Nat.le_of_ble_eq_true rfl, Nat.le_of_ble_eq_true rfl, Nat.le_of_ble_eq_true rfl, Nat.le_of_ble_eq_true rfl, Nat.le_of_ble_eq_true rfl⟩ dX0_numberOf_1 (fun r1 σ1 => ?_)
  refine j_zeq 18 C dX0_numberOf_4 (by decide) ?_ ?_
  · refine j_iconst (v := (-1)) (-1) C dX0_numberOf_18 (by decide) ?_
    exact j_sub [0] rfl (wJ19 (-1) σ1)
  · refine j_aload_n 0 C dX0_numberOf_7 rfl rfl ?_
    refine j_get 3 C fl0_18 (by decide) (ct_79 E _) rfl dX0_numberOf_8 ?_
    refine j_iload_n 1 C dX0_numberOf_11 rfl rfl ?_
    refine j_iald C (by decide) (ct_82 E _) dX0_numberOf_12 ?_
    refine j_iload_n 2 C dX0_numberOf_13 rfl rfl ?_
    refine j_iadd C dX0_numberOf_14 ?_
    refine j_goto 19 C dX0_numberOf_15 (by decide) ?_
    exact j_sub [0] rfl (wJ19 ((σ1 82 x1.toNatClampNeg) + x2) σ1)
set_option maxHeartbeats 4000000 in
set_option maxRecDepth 100000 in
theorem con1_copyFrom (N : Nat) (b : Nat) (o : Nat) (hb : isE b) (ho : isE o) : ConV yX1_copyFrom cX1_copyFrom 3 rm1_copyFrom (fun E => [.ref (ea E b), .ref (ea E o)]) (f1_copyFrom N b o) := by
  refine conV_of (L := fun E => [(0, .ref (ea E b)), (1, .ref (ea E o))]) (by decide) (fun _ => Nat.le_of_ble_eq_true rfl) (fun _ => rfl) ?_
  intro l E σ p e s m args below meth c C hr hlocks
  have wL80 : ∀ (K80 : Hp → Option (Unit × Hp)), (∀ (σ : Hp), J E 3 p l e rm1_copyFrom s m args below meth c (QV E below args s rm1_copyFrom.cells rm1_copyFrom.slots) (K80 σ) 104 [(0, .ref (ea E b)), (1, .ref (ea E o))] [] σ 0 0) → ∀ (n80 : Nat) (x2 : Int32) (σ : Hp), J E 3 p l e rm1_copyFrom s m args below meth c (QV E below args s rm1_copyFrom.cells rm1_copyFrom.slots) (f1_copyFrom_L80 N b o K80 n80 x2 σ) 80 [(0, .ref (ea E b)), (1, .ref (ea E o)), (2, .int x2)] [] σ 0 0 := by
    intro K80 HK80 n80
    induction n80 with
    | zero => intro x2 σ; exact j_none
    | succ n80 ih80 =>
      intro x2 σ
      show J E 3 p l e rm1_copyFrom s m args below meth c (QV E below args s rm1_copyFrom.cells rm1_copyFrom.slots) (f1_copyFrom_B80 N b o K80 (f1_copyFrom_L80 N b o K80 n80) x2 σ) 80 [(0, .ref (ea E b)), (1, .ref (ea E o)), (2, .int x2)] [] σ 0 0
      unfold f1_copyFrom_B80
      refine j_iload_n 2 C dX1_copyFrom_80 rfl rfl ?_
      refine j_bipush (v := 48) 48 C dX1_copyFrom_81 (by decide) ?_
      refine j_ige 104 C dX1_copyFrom_83 (by decide) ?_ ?_
      · exact j_sub [0, 1] rfl (HK80 σ)
      · refine j_aload_n 0 C dX1_copyFrom_86 rfl rfl ?_
        refine j_get 3 C fl1_22 (E_lt hb) (ct_E E hb _) rfl dX1_copyFrom_87 ?_
        refine j_iload_n 2 C dX1_copyFrom_90 rfl rfl ?_
        refine j_aload_n 1 C dX1_copyFrom_91 rfl rfl ?_
        refine j_get 3 C fl1_22 (E_lt ho) (ct_E E ho _) rfl dX1_copyFrom_92 ?_
        refine j_iload_n 2 C dX1_copyFrom_95 rfl rfl ?_
        refine j_iald C (E_lt4 ho) (ct_E4 E ho _) dX1_copyFrom_96 ?_
        refine j_iast C (E_lt4 hb) (ct_E4 E hb) dX1_copyFrom_97 ?_
        refine j_iinc 2 1 [(2, .int (x2 + 1)), (0, .ref (ea E b)), (1, .ref (ea E o))] C dX1_copyFrom_98 rfl rfl (by decide) rfl ?_
        refine j_goto 80 C dX1_copyFrom_101 (by decide) ?_
        exact j_sub [1, 2, 0] rfl (ih80 (x2 + 1) (st σ (b + 4) x2.toNatClampNeg (σ (o + 4) x2.toNatClampNeg)))
  have wL54 : ∀ (K54 : Hp → Option (Unit × Hp)), (∀ (σ : Hp), J E 3 p l e rm1_copyFrom s m args below meth c (QV E below args s rm1_copyFrom.cells rm1_copyFrom.slots) (K54 σ) 78 [(0, .ref (ea E b)), (1, .ref (ea E o))] [] σ 0 0) → ∀ (n54 : Nat) (x2 : Int32) (σ : Hp), J E 3 p l e rm1_copyFrom s m args below meth c (QV E below args s rm1_copyFrom.cells rm1_copyFrom.slots) (f1_copyFrom_L54 N b o K54 n54 x2 σ) 54 [(0, .ref (ea E b)), (1, .ref (ea E o)), (2, .int x2)] [] σ 0 0 := by
    intro K54 HK54 n54
    induction n54 with
    | zero => intro x2 σ; exact j_none
    | succ n54 ih54 =>
      intro x2 σ
      show J E 3 p l e rm1_copyFrom s m args below meth c (QV E below args s rm1_copyFrom.cells rm1_copyFrom.slots) (f1_copyFrom_B54 N b o K54 (f1_copyFrom_L54 N b o K54 n54) x2 σ) 54 [(0, .ref (ea E b)), (1, .ref (ea E o)), (2, .int x2)] [] σ 0 0
      unfold f1_copyFrom_B54
      refine j_iload_n 2 C dX1_copyFrom_54 rfl rfl ?_
      refine j_bipush (v := 8) 8 C dX1_copyFrom_55 (by decide) ?_
      refine j_ige 78 C dX1_copyFrom_57 (by decide) ?_ ?_
      · exact j_sub [0, 1] rfl (HK54 σ)
      · refine j_aload_n 0 C dX1_copyFrom_60 rfl rfl ?_
        refine j_get 2 C fl1_19 (E_lt hb) (ct_E E hb _) rfl dX1_copyFrom_61 ?_
        refine j_iload_n 2 C dX1_copyFrom_64 rfl rfl ?_
        refine j_aload_n 1 C dX1_copyFrom_65 rfl rfl ?_
        refine j_get 2 C fl1_19 (E_lt ho) (ct_E E ho _) rfl dX1_copyFrom_66 ?_
        refine j_iload_n 2 C dX1_copyFrom_69 rfl rfl ?_
        refine j_zald C (E_lt3 ho) (ct_E3 E ho _) dX1_copyFrom_70 ?_
        refine j_zast C (E_lt3 hb) (ct_E3 E hb) dX1_copyFrom_71 ?_
        refine j_iinc 2 1 [(2, .int (x2 + 1)), (0, .ref (ea E b)), (1, .ref (ea E o))] C dX1_copyFrom_72 rfl rfl (by decide) rfl ?_
        refine j_goto 54 C dX1_copyFrom_75 (by decide) ?_
        exact j_sub [1, 2, 0] rfl (ih54 (x2 + 1) (st σ (b + 3) x2.toNatClampNeg (vp_nar .boolean (σ (o + 3) x2.toNatClampNeg))))
  have wL28 : ∀ (K28 : Hp → Option (Unit × Hp)), (∀ (σ : Hp), J E 3 p l e rm1_copyFrom s m args below meth c (QV E below args s rm1_copyFrom.cells rm1_copyFrom.slots) (K28 σ) 52 [(0, .ref (ea E b)), (1, .ref (ea E o))] [] σ 0 0) → ∀ (n28 : Nat) (x2 : Int32) (σ : Hp), J E 3 p l e rm1_copyFrom s m args below meth c (QV E below args s rm1_copyFrom.cells rm1_copyFrom.slots) (f1_copyFrom_L28 N b o K28 n28 x2 σ) 28 [(0, .ref (ea E b)), (1, .ref (ea E o)), (2, .int x2)] [] σ 0 0 := by
    intro K28 HK28 n28
    induction n28 with
    | zero => intro x2 σ; exact j_none
    | succ n28 ih28 =>
      intro x2 σ
      show J E 3 p l e rm1_copyFrom s m args below meth c (QV E below args s rm1_copyFrom.cells rm1_copyFrom.slots) (f1_copyFrom_B28 N b o K28 (f1_copyFrom_L28 N b o K28 n28) x2 σ) 28 [(0, .ref (ea E b)), (1, .ref (ea E o)), (2, .int x2)] [] σ 0 0
      unfold f1_copyFrom_B28
      refine j_iload_n 2 C dX1_copyFrom_28 rfl rfl ?_
      refine j_bipush (v := 96) 96 C dX1_copyFrom_29 (by decide) ?_
      refine j_ige 52 C dX1_copyFrom_31 (by decide) ?_ ?_
      · exact j_sub [0, 1] rfl (HK28 σ)
      · refine j_aload_n 0 C dX1_copyFrom_34 rfl rfl ?_
        refine j_get 1 C fl1_15 (E_lt hb) (ct_E E hb _) rfl dX1_copyFrom_35 ?_
        refine j_iload_n 2 C dX1_copyFrom_38 rfl rfl ?_
        refine j_aload_n 1 C dX1_copyFrom_39 rfl rfl ?_
        refine j_get 1 C fl1_15 (E_lt ho) (ct_E E ho _) rfl dX1_copyFrom_40 ?_
        refine j_iload_n 2 C dX1_copyFrom_43 rfl rfl ?_
        refine j_iald C (E_lt2 ho) (ct_E2 E ho _) dX1_copyFrom_44 ?_
        refine j_iast C (E_lt2 hb) (ct_E2 E hb) dX1_copyFrom_45 ?_
        refine j_iinc 2 1 [(2, .int (x2 + 1)), (0, .ref (ea E b)), (1, .ref (ea E o))] C dX1_copyFrom_46 rfl rfl (by decide) rfl ?_
        refine j_goto 28 C dX1_copyFrom_49 (by decide) ?_
        exact j_sub [1, 2, 0] rfl (ih28 (x2 + 1) (st σ (b + 2) x2.toNatClampNeg (σ (o + 2) x2.toNatClampNeg)))
  have wL2 : ∀ (K2 : Hp → Option (Unit × Hp)), (∀ (σ : Hp), J E 3 p l e rm1_copyFrom s m args below meth c (QV E below args s rm1_copyFrom.cells rm1_copyFrom.slots) (K2 σ) 26 [(0, .ref (ea E b)), (1, .ref (ea E o))] [] σ 0 0) → ∀ (n2 : Nat) (x2 : Int32) (σ : Hp), J E 3 p l e rm1_copyFrom s m args below meth c (QV E below args s rm1_copyFrom.cells rm1_copyFrom.slots) (f1_copyFrom_L2 N b o K2 n2 x2 σ) 2 [(0, .ref (ea E b)), (1, .ref (ea E o)), (2, .int x2)] [] σ 0 0 := by
    intro K2 HK2 n2
    induction n2 with
    | zero => intro x2 σ; exact j_none
    | succ n2 ih2 =>
      intro x2 σ
      show J E 3 p l e rm1_copyFrom s m args below meth c (QV E below args s rm1_copyFrom.cells rm1_copyFrom.slots) (f1_copyFrom_B2 N b o K2 (f1_copyFrom_L2 N b o K2 n2) x2 σ) 2 [(0, .ref (ea E b)), (1, .ref (ea E o)), (2, .int x2)] [] σ 0 0
      unfold f1_copyFrom_B2
      refine j_iload_n 2 C dX1_copyFrom_2 rfl rfl ?_
      refine j_bipush (v := 12) 12 C dX1_copyFrom_3 (by decide) ?_
      refine j_ige 26 C dX1_copyFrom_5 (by decide) ?_ ?_
      · exact j_sub [0, 1] rfl (HK2 σ)
      · refine j_aload_n 0 C dX1_copyFrom_8 rfl rfl ?_
        refine j_get 0 C fl1_9 (E_lt hb) (ct_E E hb _) rfl dX1_copyFrom_9 ?_
        refine j_iload_n 2 C dX1_copyFrom_12 rfl rfl ?_
        refine j_aload_n 1 C dX1_copyFrom_13 rfl rfl ?_
        refine j_get 0 C fl1_9 (E_lt ho) (ct_E E ho _) rfl dX1_copyFrom_14 ?_
        refine j_iload_n 2 C dX1_copyFrom_17 rfl rfl ?_
        refine j_zald C (E_lt1 ho) (ct_E1 E ho _) dX1_copyFrom_18 ?_
        refine j_zast C (E_lt1 hb) (ct_E1 E hb) dX1_copyFrom_19 ?_
        refine j_iinc 2 1 [(2, .int (x2 + 1)), (0, .ref (ea E b)), (1, .ref (ea E o))] C dX1_copyFrom_20 rfl rfl (by decide) rfl ?_
        refine j_goto 2 C dX1_copyFrom_23 (by decide) ?_
        exact j_sub [1, 2, 0] rfl (ih2 (x2 + 1) (st σ (b + 1) x2.toNatClampNeg (vp_nar .boolean (σ (o + 1) x2.toNatClampNeg))))
  unfold f1_copyFrom
  refine j_iconst (v := 0) 0 C dX1_copyFrom_0 (by decide) ?_
  refine j_istore_n [(2, .int 0), (0, .ref (ea E b)), (1, .ref (ea E o))] C dX1_copyFrom_1 rfl (by decide) rfl ?_
  refine j_sub [1, 2, 0] rfl (wL2 _ (fun σL2 => ?_) N 0 σ)
  refine j_iconst (v := 0) 0 C dX1_copyFrom_26 (by decide) ?_
  refine j_istore_n [(2, .int 0), (0, .ref (ea E b)), (1, .ref (ea E o))] C dX1_copyFrom_27 rfl (by decide) rfl ?_
  refine j_sub [1, 2, 0] rfl (wL28 _ (fun σL28 => ?_) N 0 σL2)
  refine j_iconst (v := 0) 0 C dX1_copyFrom_52 (by decide) ?_
  refine j_istore_n [(2, .int 0), (0, .ref (ea E b)), (1, .ref (ea E o))] C dX1_copyFrom_53 rfl (by decide) rfl ?_
  refine j_sub [1, 2, 0] rfl (wL54 _ (fun σL54 => ?_) N 0 σL28)
  refine j_iconst (v := 0) 0 C dX1_copyFrom_78 (by decide) ?_
  refine j_istore_n [(2, .int 0), (0, .ref (ea E b)), (1, .ref (ea E o))] C dX1_copyFrom_79 rfl (by decide) rfl ?_
  refine j_sub [1, 2, 0] rfl (wL80 _ (fun σL80 => ?_) N 0 σL54)
  refine j_aload_n 0 C dX1_copyFrom_104 rfl rfl ?_
  refine j_aload_n 1 C dX1_copyFrom_105 rfl rfl ?_
  refine j_get 4 C fl1_25 (E_lt ho) (ct_E E ho _) rfl dX1_copyFrom_106 ?_
  refine j_put 4 C fl1_25 rfl rfl rfl (E_lt hb) (ct_E E hb _) (Nat.le_of_ble_eq_true rfl) (ct_E E hb _) dX1_copyFrom_109 ?_
  refine j_aload_n 0 C dX1_copyFrom_112 rfl rfl ?_
  refine j_aload_n 1 C dX1_copyFrom_113 rfl rfl ?_
  refine j_get 5 C fl1_29 (E_lt ho) (ct_E E ho _) rfl dX1_copyFrom_114 ?_
  refine j_put 5 C fl1_29 rfl rfl rfl (E_lt hb) (ct_E E hb _) (Nat.le_of_ble_eq_true rfl) (ct_E E hb _) dX1_copyFrom_117 ?_
  exact j_vret C hr hlocks dX1_copyFrom_120 (Nat.le_of_ble_eq_true rfl) (Nat.le_of_ble_eq_true rfl)
set_option maxHeartbeats 4000000 in
set_option maxRecDepth 100000 in
theorem con5_isStoryIndex (N : Nat) (x0 : Int32) : ConI yX5_isStoryIndex cX5_isStoryIndex 1 .boolean rm5_isStoryIndex (fun E => [.int x0]) (f5_isStoryIndex N x0) := by
  refine conI_of (L := fun E => [(0, .int x0)]) (by decide) (fun _ => Nat.le_of_ble_eq_true rfl) (fun _ => rfl) ?_
  intro l E σ p e s m args below meth c C hr hlocks
  unfold f5_isStoryIndex
  refine j_iload_n 0 C dX5_isStoryIndex_0 rfl rfl ?_
  refine j_zlt 14 C dX5_isStoryIndex_1 (by decide) ?_ ?_
  · refine j_iconst (v := 0) 0 C dX5_isStoryIndex_14 (by decide) ?_
    exact j_iret C hr hlocks rfl dX5_isStoryIndex_15 (Nat.le_of_ble_eq_true rfl) (Nat.le_of_ble_eq_true rfl)
  · refine j_iload_n 0 C dX5_isStoryIndex_4 rfl rfl ?_
    refine j_bipush (v := 12) 12 C dX5_isStoryIndex_5 (by decide) ?_
    refine j_ige 14 C dX5_isStoryIndex_7 (by decide) ?_ ?_
    · refine j_iconst (v := 0) 0 C dX5_isStoryIndex_14 (by decide) ?_
      exact j_iret C hr hlocks rfl dX5_isStoryIndex_15 (Nat.le_of_ble_eq_true rfl) (Nat.le_of_ble_eq_true rfl)
    · refine j_iconst (v := 1) 1 C dX5_isStoryIndex_10 (by decide) ?_
      refine j_goto 15 C dX5_isStoryIndex_11 (by decide) ?_
      exact j_iret C hr hlocks rfl dX5_isStoryIndex_15 (Nat.le_of_ble_eq_true rfl) (Nat.le_of_ble_eq_true rfl)
set_option maxHeartbeats 4000000 in
set_option maxRecDepth 100000 in
theorem con1_hasStory (N : Nat) (b : Nat) (x1 : Int32) (hb : isE b) : ConI yX1_hasStory cX1_hasStory 2 .boolean rm1_hasStory (fun E => [.ref (ea E b), .int x1]) (f1_hasStory N b x1) := by
  refine conI_of (L := fun E => [(0, .ref (ea E b)), (1, .int x1)]) (by decide) (fun _ => Nat.le_of_ble_eq_true rfl) (fun _ => rfl) ?_
  intro l E σ p e s m args below meth c C hr hlocks
  unfold f1_hasStory
  refine j_iload_n 1 C dX1_hasStory_0 rfl rfl ?_
  refine j_callNI [.int x1] (con5_isStoryIndex N x1) C mi5_isStoryIndex ms5_isStoryIndex lk1_32 rfl rfl ⟨Nat.le_of_ble_eq_true rfl, Nat.le_of_ble_eq_true rfl, Nat.le_of_ble_eq_true rfl, Nat.le_of_ble_eq_true rfl, Nat.le_of_ble_eq_true rfl⟩ dX1_hasStory_1 (fun r1 σ1 => ?_)
  refine j_zeq 20 C dX1_hasStory_4 (by decide) ?_ ?_
  · refine j_iconst (v := 0) 0 C dX1_hasStory_20 (by decide) ?_
    exact j_iret C hr hlocks rfl dX1_hasStory_21 (Nat.le_of_ble_eq_true rfl) (Nat.le_of_ble_eq_true rfl)
  · refine j_aload_n 0 C dX1_hasStory_7 rfl rfl ?_
    refine j_get 0 C fl1_9 (E_lt hb) (ct_E E hb _) rfl dX1_hasStory_8 ?_
    refine j_iload_n 1 C dX1_hasStory_11 rfl rfl ?_
    refine j_zald C (E_lt1 hb) (ct_E1 E hb _) dX1_hasStory_12 ?_
    refine j_zeq 20 C dX1_hasStory_13 (by decide) ?_ ?_
    · refine j_iconst (v := 0) 0 C dX1_hasStory_20 (by decide) ?_
      exact j_iret C hr hlocks rfl dX1_hasStory_21 (Nat.le_of_ble_eq_true rfl) (Nat.le_of_ble_eq_true rfl)
    · refine j_iconst (v := 1) 1 C dX1_hasStory_16 (by decide) ?_
      refine j_goto 21 C dX1_hasStory_17 (by decide) ?_
      exact j_iret C hr hlocks rfl dX1_hasStory_21 (Nat.le_of_ble_eq_true rfl) (Nat.le_of_ble_eq_true rfl)
set_option maxHeartbeats 4000000 in
set_option maxRecDepth 100000 in
theorem con5_isAdvertisementIndex (N : Nat) (x0 : Int32) : ConI yX5_isAdvertisementIndex cX5_isAdvertisementIndex 1 .boolean rm5_isAdvertisementIndex (fun E => [.int x0]) (f5_isAdvertisementIndex N x0) := by
  refine conI_of (L := fun E => [(0, .int x0)]) (by decide) (fun _ => Nat.le_of_ble_eq_true rfl) (fun _ => rfl) ?_
  intro l E σ p e s m args below meth c C hr hlocks
  unfold f5_isAdvertisementIndex
  refine j_iload_n 0 C dX5_isAdvertisementIndex_0 rfl rfl ?_
  refine j_zlt 14 C dX5_isAdvertisementIndex_1 (by decide) ?_ ?_
  · refine j_iconst (v := 0) 0 C dX5_isAdvertisementIndex_14 (by decide) ?_
    exact j_iret C hr hlocks rfl dX5_isAdvertisementIndex_15 (Nat.le_of_ble_eq_true rfl) (Nat.le_of_ble_eq_true rfl)
  · refine j_iload_n 0 C dX5_isAdvertisementIndex_4 rfl rfl ?_
    refine j_bipush (v := 8) 8 C dX5_isAdvertisementIndex_5 (by decide) ?_
    refine j_ige 14 C dX5_isAdvertisementIndex_7 (by decide) ?_ ?_
    · refine j_iconst (v := 0) 0 C dX5_isAdvertisementIndex_14 (by decide) ?_
      exact j_iret C hr hlocks rfl dX5_isAdvertisementIndex_15 (Nat.le_of_ble_eq_true rfl) (Nat.le_of_ble_eq_true rfl)
    · refine j_iconst (v := 1) 1 C dX5_isAdvertisementIndex_10 (by decide) ?_
      refine j_goto 15 C dX5_isAdvertisementIndex_11 (by decide) ?_
      exact j_iret C hr hlocks rfl dX5_isAdvertisementIndex_15 (Nat.le_of_ble_eq_true rfl) (Nat.le_of_ble_eq_true rfl)
set_option maxHeartbeats 4000000 in
set_option maxRecDepth 100000 in
theorem con1_hasAdvertisement (N : Nat) (b : Nat) (x1 : Int32) (hb : isE b) : ConI yX1_hasAdvertisement cX1_hasAdvertisement 2 .boolean rm1_hasAdvertisement (fun E => [.ref (ea E b), .int x1]) (f1_hasAdvertisement N b x1) := by
  refine conI_of (L := fun E => [(0, .ref (ea E b)), (1, .int x1)]) (by decide) (fun _ => Nat.le_of_ble_eq_true rfl) (fun _ => rfl) ?_
  intro l E σ p e s m args below meth c C hr hlocks
  unfold f1_hasAdvertisement
  refine j_iload_n 1 C dX1_hasAdvertisement_0 rfl rfl ?_
  refine j_callNI [.int x1] (con5_isAdvertisementIndex N x1) C mi5_isAdvertisementIndex ms5_isAdvertisementIndex lk1_36 rfl rfl ⟨Nat.le_of_ble_eq_true rfl, Nat.le_of_ble_eq_true rfl, Nat.le_of_ble_eq_true rfl, Nat.le_of_ble_eq_true rfl, Nat.le_of_ble_eq_true rfl⟩ dX1_hasAdvertisement_1 (fun r1 σ1 => ?_)
  refine j_zeq 20 C dX1_hasAdvertisement_4 (by decide) ?_ ?_
  · refine j_iconst (v := 0) 0 C dX1_hasAdvertisement_20 (by decide) ?_
    exact j_iret C hr hlocks rfl dX1_hasAdvertisement_21 (Nat.le_of_ble_eq_true rfl) (Nat.le_of_ble_eq_true rfl)
  · refine j_aload_n 0 C dX1_hasAdvertisement_7 rfl rfl ?_
    refine j_get 2 C fl1_19 (E_lt hb) (ct_E E hb _) rfl dX1_hasAdvertisement_8 ?_
    refine j_iload_n 1 C dX1_hasAdvertisement_11 rfl rfl ?_
    refine j_zald C (E_lt3 hb) (ct_E3 E hb _) dX1_hasAdvertisement_12 ?_
    refine j_zeq 20 C dX1_hasAdvertisement_13 (by decide) ?_ ?_
    · refine j_iconst (v := 0) 0 C dX1_hasAdvertisement_20 (by decide) ?_
      exact j_iret C hr hlocks rfl dX1_hasAdvertisement_21 (Nat.le_of_ble_eq_true rfl) (Nat.le_of_ble_eq_true rfl)
    · refine j_iconst (v := 1) 1 C dX1_hasAdvertisement_16 (by decide) ?_
      refine j_goto 21 C dX1_hasAdvertisement_17 (by decide) ?_
      exact j_iret C hr hlocks rfl dX1_hasAdvertisement_21 (Nat.le_of_ble_eq_true rfl) (Nat.le_of_ble_eq_true rfl)
set_option maxHeartbeats 4000000 in
set_option maxRecDepth 100000 in
theorem con1_storyNumber (N : Nat) (b : Nat) (x1 : Int32) (x2 : Int32) (hb : isE b) : ConI yX1_storyNumber cX1_storyNumber 3 .int rm1_storyNumber (fun E => [.ref (ea E b), .int x1, .int x2]) (f1_storyNumber N b x1 x2) := by
  refine conI_of (L := fun E => [(0, .ref (ea E b)), (1, .int x1), (2, .int x2)]) (by decide) (fun _ => Nat.le_of_ble_eq_true rfl) (fun _ => rfl) ?_
  intro l E σ p e s m args below meth c C hr hlocks
  unfold f1_storyNumber
  refine j_iload_n 1 C dX1_storyNumber_0 rfl rfl ?_
  refine j_zlt 20 C dX1_storyNumber_1 (by decide) ?_ ?_
  · refine j_iconst (v := 0) 0 C dX1_storyNumber_20 (by decide) ?_
    exact j_iret C hr hlocks rfl dX1_storyNumber_21 (Nat.le_of_ble_eq_true rfl) (Nat.le_of_ble_eq_true rfl)
  · refine j_iload_n 1 C dX1_storyNumber_4 rfl rfl ?_
    refine j_bipush (v := 12) 12 C dX1_storyNumber_5 (by decide) ?_
    refine j_ige 20 C dX1_storyNumber_7 (by decide) ?_ ?_
    · refine j_iconst (v := 0) 0 C dX1_storyNumber_20 (by decide) ?_
      exact j_iret C hr hlocks rfl dX1_storyNumber_21 (Nat.le_of_ble_eq_true rfl) (Nat.le_of_ble_eq_true rfl)
    · refine j_iload_n 2 C dX1_storyNumber_10 rfl rfl ?_
      refine j_zlt 20 C dX1_storyNumber_11 (by decide) ?_ ?_
      · refine j_iconst (v := 0) 0 C dX1_storyNumber_20 (by decide) ?_
        exact j_iret C hr hlocks rfl dX1_storyNumber_21 (Nat.le_of_ble_eq_true rfl) (Nat.le_of_ble_eq_true rfl)
      · refine j_iload_n 2 C dX1_storyNumber_14 rfl rfl ?_
        refine j_bipush (v := 8) 8 C dX1_storyNumber_15 (by decide) ?_
        refine j_ilt 22 C dX1_storyNumber_17 (by decide) ?_ ?_
        · refine j_aload_n 0 C dX1_storyNumber_22 rfl rfl ?_
          refine j_get 1 C fl1_15 (E_lt hb) (ct_E E hb _) rfl dX1_storyNumber_23 ?_
          refine j_iload_n 1 C dX1_storyNumber_26 rfl rfl ?_
          refine j_bipush (v := 8) 8 C dX1_storyNumber_27 (by decide) ?_
          refine j_imul C dX1_storyNumber_29 ?_
          refine j_iload_n 2 C dX1_storyNumber_30 rfl rfl ?_
          refine j_iadd C dX1_storyNumber_31 ?_
          refine j_iald C (E_lt2 hb) (ct_E2 E hb _) dX1_storyNumber_32 ?_
          exact j_iret C hr hlocks rfl dX1_storyNumber_33 (Nat.le_of_ble_eq_true rfl) (Nat.le_of_ble_eq_true rfl)
        · refine j_iconst (v := 0) 0 C dX1_storyNumber_20 (by decide) ?_
          exact j_iret C hr hlocks rfl dX1_storyNumber_21 (Nat.le_of_ble_eq_true rfl) (Nat.le_of_ble_eq_true rfl)
set_option maxHeartbeats 4000000 in
set_option maxRecDepth 100000 in
theorem con1_advertisementNumber (N : Nat) (b : Nat) (x1 : Int32) (x2 : Int32) (hb : isE b) : ConI yX1_advertisementNumber cX1_advertisementNumber 3 .int rm1_advertisementNumber (fun E => [.ref (ea E b), .int x1, .int x2]) (f1_advertisementNumber N b x1 x2) := by
  refine conI_of (L := fun E => [(0, .ref (ea E b)), (1, .int x1), (2, .int x2)]) (by decide) (fun _ => Nat.le_of_ble_eq_true rfl) (fun _ => rfl) ?_
  intro l E σ p e s m args below meth c C hr hlocks
  unfold f1_advertisementNumber
  refine j_iload_n 1 C dX1_advertisementNumber_0 rfl rfl ?_
  refine j_callNI [.int x1] (con5_isAdvertisementIndex N x1) C mi5_isAdvertisementIndex ms5_isAdvertisementIndex lk1_36 rfl rfl ⟨Nat.le_of_ble_eq_true rfl, Nat.le_of_ble_eq_true rfl, Nat.le_of_ble_eq_true rfl, Nat.le_of_ble_eq_true rfl, Nat.le_of_ble_eq_true rfl⟩ dX1_advertisementNumber_1 (fun r1 σ1 => ?_)
  refine j_zeq 17 C dX1_advertisementNumber_4 (by decide) ?_ ?_
  · refine j_iconst (v := 0) 0 C dX1_advertisementNumber_17 (by decide) ?_
    exact j_iret C hr hlocks rfl dX1_advertisementNumber_18 (Nat.le_of_ble_eq_true rfl) (Nat.le_of_ble_eq_true rfl)
  · refine j_iload_n 2 C dX1_advertisementNumber_7 rfl rfl ?_
    refine j_zlt 17 C dX1_advertisementNumber_8 (by decide) ?_ ?_
    · refine j_iconst (v := 0) 0 C dX1_advertisementNumber_17 (by decide) ?_
      exact j_iret C hr hlocks rfl dX1_advertisementNumber_18 (Nat.le_of_ble_eq_true rfl) (Nat.le_of_ble_eq_true rfl)
    · refine j_iload_n 2 C dX1_advertisementNumber_11 rfl rfl ?_
      refine j_bipush (v := 6) 6 C dX1_advertisementNumber_12 (by decide) ?_
      refine j_ilt 19 C dX1_advertisementNumber_14 (by decide) ?_ ?_
      · refine j_aload_n 0 C dX1_advertisementNumber_19 rfl rfl ?_
        refine j_get 3 C fl1_22 (E_lt hb) (ct_E E hb _) rfl dX1_advertisementNumber_20 ?_
        refine j_iload_n 1 C dX1_advertisementNumber_23 rfl rfl ?_
        refine j_bipush (v := 6) 6 C dX1_advertisementNumber_24 (by decide) ?_
        refine j_imul C dX1_advertisementNumber_26 ?_
        refine j_iload_n 2 C dX1_advertisementNumber_27 rfl rfl ?_
        refine j_iadd C dX1_advertisementNumber_28 ?_
        refine j_iald C (E_lt4 hb) (ct_E4 E hb _) dX1_advertisementNumber_29 ?_
        exact j_iret C hr hlocks rfl dX1_advertisementNumber_30 (Nat.le_of_ble_eq_true rfl) (Nat.le_of_ble_eq_true rfl)
      · refine j_iconst (v := 0) 0 C dX1_advertisementNumber_17 (by decide) ?_
        exact j_iret C hr hlocks rfl dX1_advertisementNumber_18 (Nat.le_of_ble_eq_true rfl) (Nat.le_of_ble_eq_true rfl)
set_option maxHeartbeats 4000000 in
set_option maxRecDepth 100000 in
theorem con1_isLate (N : Nat) (b : Nat) (x1 : Int32) (hb : isE b) : ConI yX1_isLate cX1_isLate 2 .boolean rm1_isLate (fun E => [.ref (ea E b), .int x1]) (f1_isLate N b x1) := by
  refine conI_of (L := fun E => [(0, .ref (ea E b)), (1, .int x1)]) (by decide) (fun _ => Nat.le_of_ble_eq_true rfl) (fun _ => rfl) ?_
  intro l E σ p e s m args below meth c C hr hlocks
  unfold f1_isLate
  refine j_aload_n 0 C dX1_isLate_0 rfl rfl ?_
  refine j_iload_n 1 C dX1_isLate_1 rfl rfl ?_
  refine j_bipush (v := 7) 7 C dX1_isLate_2 (by decide) ?_
  refine j_callVI [.int x1, .int 7] (con1_storyNumber N b x1 7 hb) C mi1_storyNumber mv1_storyNumber lk1_39 (E_lt hb) (ct_E E hb _) rfl rfl rfl ⟨Nat.le_of_ble_eq_true rfl, Nat.le_of_ble_eq_true rfl, Nat.le_of_ble_eq_true rfl, Nat.le_of_ble_eq_true rfl, Nat.le_of_ble_eq_true rfl⟩ dX1_isLate_4 (fun r4 σ4 => ?_)
  refine j_zeq 14 C dX1_isLate_7 (by decide) ?_ ?_
  · refine j_iconst (v := 0) 0 C dX1_isLate_14 (by decide) ?_
    exact j_iret C hr hlocks rfl dX1_isLate_15 (Nat.le_of_ble_eq_true rfl) (Nat.le_of_ble_eq_true rfl)
  · refine j_iconst (v := 1) 1 C dX1_isLate_10 (by decide) ?_
    refine j_goto 15 C dX1_isLate_11 (by decide) ?_
    exact j_iret C hr hlocks rfl dX1_isLate_15 (Nat.le_of_ble_eq_true rfl) (Nat.le_of_ble_eq_true rfl)
set_option maxHeartbeats 4000000 in
set_option maxRecDepth 100000 in
theorem con1_headRows (N : Nat) (b : Nat) (x1 : Int32) (hb : isE b) : ConI yX1_headRows cX1_headRows 2 .int rm1_headRows (fun E => [.ref (ea E b), .int x1]) (f1_headRows N b x1) := by
  refine conI_of (L := fun E => [(0, .ref (ea E b)), (1, .int x1)]) (by decide) (fun _ => Nat.le_of_ble_eq_true rfl) (fun _ => rfl) ?_
  intro l E σ p e s m args below meth c C hr hlocks
  unfold f1_headRows
  refine j_aload_n 0 C dX1_headRows_0 rfl rfl ?_
  refine j_iload_n 1 C dX1_headRows_1 rfl rfl ?_
  refine j_iconst (v := 2) 2 C dX1_headRows_2 (by decide) ?_
  refine j_callVI [.int x1, .int 2] (con1_storyNumber N b x1 2 hb) C mi1_storyNumber mv1_storyNumber lk1_39 (E_lt hb) (ct_E E hb _) rfl rfl rfl ⟨Nat.le_of_ble_eq_true rfl, Nat.le_of_ble_eq_true rfl, Nat.le_of_ble_eq_true rfl, Nat.le_of_ble_eq_true rfl, Nat.le_of_ble_eq_true rfl⟩ dX1_headRows_3 (fun r3 σ3 => ?_)
  refine j_aload_n 0 C dX1_headRows_6 rfl rfl ?_
  refine j_iload_n 1 C dX1_headRows_7 rfl rfl ?_
  refine j_iconst (v := 5) 5 C dX1_headRows_8 (by decide) ?_
  refine j_callVI [.int x1, .int 5] (con1_storyNumber N b x1 5 hb) C mi1_storyNumber mv1_storyNumber lk1_39 (E_lt hb) (ct_E E hb _) rfl rfl rfl ⟨Nat.le_of_ble_eq_true rfl, Nat.le_of_ble_eq_true rfl, Nat.le_of_ble_eq_true rfl, Nat.le_of_ble_eq_true rfl, Nat.le_of_ble_eq_true rfl⟩ dX1_headRows_9 (fun r9 σ9 => ?_)
  refine j_iadd C dX1_headRows_12 ?_
  refine j_aload_n 0 C dX1_headRows_13 rfl rfl ?_
  refine j_iload_n 1 C dX1_headRows_14 rfl rfl ?_
  refine j_bipush (v := 6) 6 C dX1_headRows_15 (by decide) ?_
  refine j_callVI [.int x1, .int 6] (con1_storyNumber N b x1 6 hb) C mi1_storyNumber mv1_storyNumber lk1_39 (E_lt hb) (ct_E E hb _) rfl rfl rfl ⟨Nat.le_of_ble_eq_true rfl, Nat.le_of_ble_eq_true rfl, Nat.le_of_ble_eq_true rfl, Nat.le_of_ble_eq_true rfl, Nat.le_of_ble_eq_true rfl⟩ dX1_headRows_17 (fun r17 σ17 => ?_)
  refine j_iadd C dX1_headRows_20 ?_
  exact j_iret C hr hlocks rfl dX1_headRows_21 (Nat.le_of_ble_eq_true rfl) (Nat.le_of_ble_eq_true rfl)
set_option maxHeartbeats 4000000 in
set_option maxRecDepth 100000 in
theorem con1_storyCount (N : Nat) (b : Nat) (hb : isE b) : ConI yX1_storyCount cX1_storyCount 3 .int rm1_storyCount (fun E => [.ref (ea E b)]) (f1_storyCount N b) := by
  refine conI_of (L := fun E => [(0, .ref (ea E b))]) (by decide) (fun _ => Nat.le_of_ble_eq_true rfl) (fun _ => rfl) ?_
  intro l E σ p e s m args below meth c C hr hlocks
  have wL4 : ∀ (K4 : Int32 → Hp → Option (Int32 × Hp)), (∀ (x1 : Int32) (σ : Hp), J E 3 p l e rm1_storyCount s m args below meth c (QI E below args s rm1_storyCount.cells rm1_storyCount.slots) (K4 x1 σ) 28 [(1, .int x1)] [] σ 0 0) → ∀ (n4 : Nat) (x1 : Int32) (x2 : Int32) (σ : Hp), J E 3 p l e rm1_storyCount s m args below meth c (QI E below args s rm1_storyCount.cells rm1_storyCount.slots) (f1_storyCount_L4 N b K4 n4 x1 x2 σ) 4 [(0, .ref (ea E b)), (1, .int x1), (2, .int x2)] [] σ 0 0 := by
    intro K4 HK4 n4
    induction n4 with
    | zero => intro x1 x2 σ; exact j_none
    | succ n4 ih4 =>
      have wJ22 : ∀ (x1 : Int32) (x2 : Int32) (σ : Hp), J E 3 p l e rm1_storyCount s m args below meth c (QI E below args s rm1_storyCount.cells rm1_storyCount.slots) (f1_storyCount_J22 N b K4 (f1_storyCount_L4 N b K4 n4) x1 x2 σ) 22 [(0, .ref (ea E b)), (1, .int x1), (2, .int x2)] [] σ 0 0 := by
        intro x1 x2 σ
        unfold f1_storyCount_J22
        refine j_iinc 2 1 [(2, .int (x2 + 1)), (0, .ref (ea E b)), (1, .int x1)] C dX1_storyCount_22 rfl rfl (by decide) rfl ?_
        refine j_goto 4 C dX1_storyCount_25 (by decide) ?_
        exact j_sub [1, 2, 0] rfl (ih4 x1 (x2 + 1) σ)
      intro x1 x2 σ
      show J E 3 p l e rm1_storyCount s m args below meth c (QI E below args s rm1_storyCount.cells rm1_storyCount.slots) (f1_storyCount_B4 N b K4 (f1_storyCount_L4 N b K4 n4) x1 x2 σ) 4 [(0, .ref (ea E b)), (1, .int x1), (2, .int x2)] [] σ 0 0
      unfold f1_storyCount_B4
      refine j_iload_n 2 C dX1_storyCount_4 rfl rfl ?_
      refine j_bipush (v := 12) 12 C dX1_storyCount_5 (by decide) ?_
      refine j_ige 28 C dX1_storyCount_7 (by decide) ?_ ?_
      · exact j_sub [1] rfl (HK4 x1 σ)
      · refine j_aload_n 0 C dX1_storyCount_10 rfl rfl ?_
        refine j_get 0 C fl1_9 (E_lt hb) (ct_E E hb _) rfl dX1_storyCount_11 ?_
        refine j_iload_n 2 C dX1_storyCount_14 rfl rfl ?_
        refine j_zald C (E_lt1 hb) (ct_E1 E hb _) dX1_storyCount_15 ?_
        refine j_zeq 22 C dX1_storyCount_16 (by decide) ?_ ?_
        · exact j_sub [0, 1, 2] rfl (wJ22 x1 x2 σ)
        · refine j_iinc 1 1 [(1, .int (x1 + 1)), (0, .ref (ea E b)), (2, .int x2)] C dX1_storyCount_19 rfl rfl (by decide) rfl ?_
          exact j_sub [1, 0, 2] rfl (wJ22 (x1 + 1) x2 σ)
  unfold f1_storyCount
  refine j_iconst (v := 0) 0 C dX1_storyCount_0 (by decide) ?_
  refine j_istore_n [(1, .int 0), (0, .ref (ea E b))] C dX1_storyCount_1 rfl (by decide) rfl ?_
  refine j_iconst (v := 0) 0 C dX1_storyCount_2 (by decide) ?_
  refine j_istore_n [(2, .int 0), (1, .int 0), (0, .ref (ea E b))] C dX1_storyCount_3 rfl (by decide) rfl ?_
  refine j_sub [2, 1, 0] rfl (wL4 _ (fun x1_4 σL4 => ?_) N 0 0 σ)
  refine j_iload_n 0 C dX1_storyCount_28 rfl rfl ?_
  exact j_iret C hr hlocks rfl dX1_storyCount_29 (Nat.le_of_ble_eq_true rfl) (Nat.le_of_ble_eq_true rfl)
set_option maxHeartbeats 4000000 in
set_option maxRecDepth 100000 in
theorem con1_advertisementCount (N : Nat) (b : Nat) (hb : isE b) : ConI yX1_advertisementCount cX1_advertisementCount 3 .int rm1_advertisementCount (fun E => [.ref (ea E b)]) (f1_advertisementCount N b) := by
  refine conI_of (L := fun E => [(0, .ref (ea E b))]) (by decide) (fun _ => Nat.le_of_ble_eq_true rfl) (fun _ => rfl) ?_
  intro l E σ p e s m args below meth c C hr hlocks
  have wL4 : ∀ (K4 : Int32 → Hp → Option (Int32 × Hp)), (∀ (x1 : Int32) (σ : Hp), J E 3 p l e rm1_advertisementCount s m args below meth c (QI E below args s rm1_advertisementCount.cells rm1_advertisementCount.slots) (K4 x1 σ) 28 [(1, .int x1)] [] σ 0 0) → ∀ (n4 : Nat) (x1 : Int32) (x2 : Int32) (σ : Hp), J E 3 p l e rm1_advertisementCount s m args below meth c (QI E below args s rm1_advertisementCount.cells rm1_advertisementCount.slots) (f1_advertisementCount_L4 N b K4 n4 x1 x2 σ) 4 [(0, .ref (ea E b)), (1, .int x1), (2, .int x2)] [] σ 0 0 := by
    intro K4 HK4 n4
    induction n4 with
    | zero => intro x1 x2 σ; exact j_none
    | succ n4 ih4 =>
      have wJ22 : ∀ (x1 : Int32) (x2 : Int32) (σ : Hp), J E 3 p l e rm1_advertisementCount s m args below meth c (QI E below args s rm1_advertisementCount.cells rm1_advertisementCount.slots) (f1_advertisementCount_J22 N b K4 (f1_advertisementCount_L4 N b K4 n4) x1 x2 σ) 22 [(0, .ref (ea E b)), (1, .int x1), (2, .int x2)] [] σ 0 0 := by
        intro x1 x2 σ
        unfold f1_advertisementCount_J22
        refine j_iinc 2 1 [(2, .int (x2 + 1)), (0, .ref (ea E b)), (1, .int x1)] C dX1_advertisementCount_22 rfl rfl (by decide) rfl ?_
        refine j_goto 4 C dX1_advertisementCount_25 (by decide) ?_
        exact j_sub [1, 2, 0] rfl (ih4 x1 (x2 + 1) σ)
      intro x1 x2 σ
      show J E 3 p l e rm1_advertisementCount s m args below meth c (QI E below args s rm1_advertisementCount.cells rm1_advertisementCount.slots) (f1_advertisementCount_B4 N b K4 (f1_advertisementCount_L4 N b K4 n4) x1 x2 σ) 4 [(0, .ref (ea E b)), (1, .int x1), (2, .int x2)] [] σ 0 0
      unfold f1_advertisementCount_B4
      refine j_iload_n 2 C dX1_advertisementCount_4 rfl rfl ?_
      refine j_bipush (v := 8) 8 C dX1_advertisementCount_5 (by decide) ?_
      refine j_ige 28 C dX1_advertisementCount_7 (by decide) ?_ ?_
      · exact j_sub [1] rfl (HK4 x1 σ)
      · refine j_aload_n 0 C dX1_advertisementCount_10 rfl rfl ?_
        refine j_get 2 C fl1_19 (E_lt hb) (ct_E E hb _) rfl dX1_advertisementCount_11 ?_
        refine j_iload_n 2 C dX1_advertisementCount_14 rfl rfl ?_
        refine j_zald C (E_lt3 hb) (ct_E3 E hb _) dX1_advertisementCount_15 ?_
        refine j_zeq 22 C dX1_advertisementCount_16 (by decide) ?_ ?_
        · exact j_sub [0, 1, 2] rfl (wJ22 x1 x2 σ)
        · refine j_iinc 1 1 [(1, .int (x1 + 1)), (0, .ref (ea E b)), (2, .int x2)] C dX1_advertisementCount_19 rfl rfl (by decide) rfl ?_
          exact j_sub [1, 0, 2] rfl (wJ22 (x1 + 1) x2 σ)
  unfold f1_advertisementCount
  refine j_iconst (v := 0) 0 C dX1_advertisementCount_0 (by decide) ?_
  refine j_istore_n [(1, .int 0), (0, .ref (ea E b))] C dX1_advertisementCount_1 rfl (by decide) rfl ?_
  refine j_iconst (v := 0) 0 C dX1_advertisementCount_2 (by decide) ?_
  refine j_istore_n [(2, .int 0), (1, .int 0), (0, .ref (ea E b))] C dX1_advertisementCount_3 rfl (by decide) rfl ?_
  refine j_sub [2, 1, 0] rfl (wL4 _ (fun x1_4 σL4 => ?_) N 0 0 σ)
  refine j_iload_n 0 C dX1_advertisementCount_28 rfl rfl ?_
  exact j_iret C hr hlocks rfl dX1_advertisementCount_29 (Nat.le_of_ble_eq_true rfl) (Nat.le_of_ble_eq_true rfl)
set_option maxHeartbeats 4000000 in
set_option maxRecDepth 100000 in
theorem con1_cellsOf (N : Nat) (b : Nat) (x1 : Int32) (hb : isE b) : ConI yX1_cellsOf cX1_cellsOf 2 .int rm1_cellsOf (fun E => [.ref (ea E b), .int x1]) (f1_cellsOf N b x1) := by
  refine conI_of (L := fun E => [(0, .ref (ea E b)), (1, .int x1)]) (by decide) (fun _ => Nat.le_of_ble_eq_true rfl) (fun _ => rfl) ?_
  intro l E σ p e s m args below meth c C hr hlocks
  unfold f1_cellsOf
  refine j_aload_n 0 C dX1_cellsOf_0 rfl rfl ?_
  refine j_iload_n 1 C dX1_cellsOf_1 rfl rfl ?_
  refine j_iconst (v := 3) 3 C dX1_cellsOf_2 (by decide) ?_
  refine j_callVI [.int x1, .int 3] (con1_advertisementNumber N b x1 3 hb) C mi1_advertisementNumber mv1_advertisementNumber lk1_43 (E_lt hb) (ct_E E hb _) rfl rfl rfl ⟨Nat.le_of_ble_eq_true rfl, Nat.le_of_ble_eq_true rfl, Nat.le_of_ble_eq_true rfl, Nat.le_of_ble_eq_true rfl, Nat.le_of_ble_eq_true rfl⟩ dX1_cellsOf_3 (fun r3 σ3 => ?_)
  refine j_aload_n 0 C dX1_cellsOf_6 rfl rfl ?_
  refine j_iload_n 1 C dX1_cellsOf_7 rfl rfl ?_
  refine j_iconst (v := 4) 4 C dX1_cellsOf_8 (by decide) ?_
  refine j_callVI [.int x1, .int 4] (con1_advertisementNumber N b x1 4 hb) C mi1_advertisementNumber mv1_advertisementNumber lk1_43 (E_lt hb) (ct_E E hb _) rfl rfl rfl ⟨Nat.le_of_ble_eq_true rfl, Nat.le_of_ble_eq_true rfl, Nat.le_of_ble_eq_true rfl, Nat.le_of_ble_eq_true rfl, Nat.le_of_ble_eq_true rfl⟩ dX1_cellsOf_9 (fun r9 σ9 => ?_)
  refine j_imul C dX1_cellsOf_12 ?_
  exact j_iret C hr hlocks rfl dX1_cellsOf_13 (Nat.le_of_ble_eq_true rfl) (Nat.le_of_ble_eq_true rfl)
set_option maxHeartbeats 4000000 in
set_option maxRecDepth 100000 in
theorem con1_priceOfCells (N : Nat) (b : Nat) (x1 : Int32) (hb : isE b) : ConI yX1_priceOfCells cX1_priceOfCells 2 .int rm1_priceOfCells (fun E => [.ref (ea E b), .int x1]) (f1_priceOfCells N b x1) := by
  refine conI_of (L := fun E => [(0, .ref (ea E b)), (1, .int x1)]) (by decide) (fun _ => Nat.le_of_ble_eq_true rfl) (fun _ => rfl) ?_
  intro l E σ p e s m args below meth c C hr hlocks
  unfold f1_priceOfCells
  refine j_aload_n 0 C dX1_priceOfCells_0 rfl rfl ?_
  refine j_iload_n 1 C dX1_priceOfCells_1 rfl rfl ?_
  refine j_callVI [.int x1] (con1_cellsOf N b x1 hb) C mi1_cellsOf mv1_cellsOf lk1_46 (E_lt hb) (ct_E E hb _) rfl rfl rfl ⟨Nat.le_of_ble_eq_true rfl, Nat.le_of_ble_eq_true rfl, Nat.le_of_ble_eq_true rfl, Nat.le_of_ble_eq_true rfl, Nat.le_of_ble_eq_true rfl⟩ dX1_priceOfCells_2 (fun r2 σ2 => ?_)
  refine j_aload_n 0 C dX1_priceOfCells_5 rfl rfl ?_
  refine j_iload_n 1 C dX1_priceOfCells_6 rfl rfl ?_
  refine j_iconst (v := 5) 5 C dX1_priceOfCells_7 (by decide) ?_
  refine j_callVI [.int x1, .int 5] (con1_advertisementNumber N b x1 5 hb) C mi1_advertisementNumber mv1_advertisementNumber lk1_43 (E_lt hb) (ct_E E hb _) rfl rfl rfl ⟨Nat.le_of_ble_eq_true rfl, Nat.le_of_ble_eq_true rfl, Nat.le_of_ble_eq_true rfl, Nat.le_of_ble_eq_true rfl, Nat.le_of_ble_eq_true rfl⟩ dX1_priceOfCells_8 (fun r8 σ8 => ?_)
  refine j_imul C dX1_priceOfCells_11 ?_
  exact j_iret C hr hlocks rfl dX1_priceOfCells_12 (Nat.le_of_ble_eq_true rfl) (Nat.le_of_ble_eq_true rfl)
set_option maxHeartbeats 4000000 in
set_option maxRecDepth 100000 in
theorem con1_cellsOfAdvertisements (N : Nat) (b : Nat) (hb : isE b) : ConI yX1_cellsOfAdvertisements cX1_cellsOfAdvertisements 3 .int rm1_cellsOfAdvertisements (fun E => [.ref (ea E b)]) (f1_cellsOfAdvertisements N b) := by
  refine conI_of (L := fun E => [(0, .ref (ea E b))]) (by decide) (fun _ => Nat.le_of_ble_eq_true rfl) (fun _ => rfl) ?_
  intro l E σ p e s m args below meth c C hr hlocks
  have wL4 : ∀ (K4 : Int32 → Hp → Option (Int32 × Hp)), (∀ (x1 : Int32) (σ : Hp), J E 3 p l e rm1_cellsOfAdvertisements s m args below meth c (QI E below args s rm1_cellsOfAdvertisements.cells rm1_cellsOfAdvertisements.slots) (K4 x1 σ) 33 [(1, .int x1)] [] σ 0 0) → ∀ (n4 : Nat) (x1 : Int32) (x2 : Int32) (σ : Hp), J E 3 p l e rm1_cellsOfAdvertisements s m args below meth c (QI E below args s rm1_cellsOfAdvertisements.cells rm1_cellsOfAdvertisements.slots) (f1_cellsOfAdvertisements_L4 N b K4 n4 x1 x2 σ) 4 [(0, .ref (ea E b)), (1, .int x1), (2, .int x2)] [] σ 0 0 := by
    intro K4 HK4 n4
    induction n4 with
    | zero => intro x1 x2 σ; exact j_none
    | succ n4 ih4 =>
      have wJ27 : ∀ (x1 : Int32) (x2 : Int32) (σ : Hp), J E 3 p l e rm1_cellsOfAdvertisements s m args below meth c (QI E below args s rm1_cellsOfAdvertisements.cells rm1_cellsOfAdvertisements.slots) (f1_cellsOfAdvertisements_J27 N b K4 (f1_cellsOfAdvertisements_L4 N b K4 n4) x1 x2 σ) 27 [(0, .ref (ea E b)), (1, .int x1), (2, .int x2)] [] σ 0 0 := by
        intro x1 x2 σ
        unfold f1_cellsOfAdvertisements_J27
        refine j_iinc 2 1 [(2, .int (x2 + 1)), (0, .ref (ea E b)), (1, .int x1)] C dX1_cellsOfAdvertisements_27 rfl rfl (by decide) rfl ?_
        refine j_goto 4 C dX1_cellsOfAdvertisements_30 (by decide) ?_
        exact j_sub [1, 2, 0] rfl (ih4 x1 (x2 + 1) σ)
      intro x1 x2 σ
      show J E 3 p l e rm1_cellsOfAdvertisements s m args below meth c (QI E below args s rm1_cellsOfAdvertisements.cells rm1_cellsOfAdvertisements.slots) (f1_cellsOfAdvertisements_B4 N b K4 (f1_cellsOfAdvertisements_L4 N b K4 n4) x1 x2 σ) 4 [(0, .ref (ea E b)), (1, .int x1), (2, .int x2)] [] σ 0 0
      unfold f1_cellsOfAdvertisements_B4
      refine j_iload_n 2 C dX1_cellsOfAdvertisements_4 rfl rfl ?_
      refine j_bipush (v := 8) 8 C dX1_cellsOfAdvertisements_5 (by decide) ?_
      refine j_ige 33 C dX1_cellsOfAdvertisements_7 (by decide) ?_ ?_
      · exact j_sub [1] rfl (HK4 x1 σ)
      · refine j_aload_n 0 C dX1_cellsOfAdvertisements_10 rfl rfl ?_
        refine j_get 2 C fl1_19 (E_lt hb) (ct_E E hb _) rfl dX1_cellsOfAdvertisements_11 ?_
        refine j_iload_n 2 C dX1_cellsOfAdvertisements_14 rfl rfl ?_
        refine j_zald C (E_lt3 hb) (ct_E3 E hb _) dX1_cellsOfAdvertisements_15 ?_
        refine j_zeq 27 C dX1_cellsOfAdvertisements_16 (by decide) ?_ ?_
        · exact j_sub [0, 1, 2] rfl (wJ27 x1 x2 σ)
        · refine j_iload_n 1 C dX1_cellsOfAdvertisements_19 rfl rfl ?_
          refine j_aload_n 0 C dX1_cellsOfAdvertisements_20 rfl rfl ?_
          refine j_iload_n 2 C dX1_cellsOfAdvertisements_21 rfl rfl ?_
          refine j_callVI [.int x2] (con1_cellsOf N b x2 hb) C mi1_cellsOf mv1_cellsOf lk1_46 (E_lt hb) (ct_E E hb _) rfl rfl rfl ⟨Nat.le_of_ble_eq_true rfl, Nat.le_of_ble_eq_true rfl, Nat.le_of_ble_eq_true rfl, Nat.le_of_ble_eq_true rfl, Nat.le_of_ble_eq_true rfl⟩ dX1_cellsOfAdvertisements_22 (fun r22 σ22 => ?_)
          refine j_iadd C dX1_cellsOfAdvertisements_25 ?_
          refine j_istore_n [(1, .int (x1 + r22)), (0, .ref (ea E b)), (2, .int x2)] C dX1_cellsOfAdvertisements_26 rfl (by decide) rfl ?_
          exact j_sub [1, 0, 2] rfl (wJ27 (x1 + r22) x2 σ22)
  unfold f1_cellsOfAdvertisements
  refine j_iconst (v := 0) 0 C dX1_cellsOfAdvertisements_0 (by decide) ?_
  refine j_istore_n [(1, .int 0), (0, .ref (ea E b))] C dX1_cellsOfAdvertisements_1 rfl (by decide) rfl ?_
  refine j_iconst (v := 0) 0 C dX1_cellsOfAdvertisements_2 (by decide) ?_
  refine j_istore_n [(2, .int 0), (1, .int 0), (0, .ref (ea E b))] C dX1_cellsOfAdvertisements_3 rfl (by decide) rfl ?_
  refine j_sub [2, 1, 0] rfl (wL4 _ (fun x1_4 σL4 => ?_) N 0 0 σ)
  refine j_iload_n 0 C dX1_cellsOfAdvertisements_33 rfl rfl ?_
  exact j_iret C hr hlocks rfl dX1_cellsOfAdvertisements_34 (Nat.le_of_ble_eq_true rfl) (Nat.le_of_ble_eq_true rfl)
set_option maxHeartbeats 4000000 in
set_option maxRecDepth 100000 in
theorem con1_allPrices (N : Nat) (b : Nat) (hb : isE b) : ConI yX1_allPrices cX1_allPrices 3 .int rm1_allPrices (fun E => [.ref (ea E b)]) (f1_allPrices N b) := by
  refine conI_of (L := fun E => [(0, .ref (ea E b))]) (by decide) (fun _ => Nat.le_of_ble_eq_true rfl) (fun _ => rfl) ?_
  intro l E σ p e s m args below meth c C hr hlocks
  have wL4 : ∀ (K4 : Int32 → Hp → Option (Int32 × Hp)), (∀ (x1 : Int32) (σ : Hp), J E 3 p l e rm1_allPrices s m args below meth c (QI E below args s rm1_allPrices.cells rm1_allPrices.slots) (K4 x1 σ) 33 [(1, .int x1)] [] σ 0 0) → ∀ (n4 : Nat) (x1 : Int32) (x2 : Int32) (σ : Hp), J E 3 p l e rm1_allPrices s m args below meth c (QI E below args s rm1_allPrices.cells rm1_allPrices.slots) (f1_allPrices_L4 N b K4 n4 x1 x2 σ) 4 [(0, .ref (ea E b)), (1, .int x1), (2, .int x2)] [] σ 0 0 := by
    intro K4 HK4 n4
    induction n4 with
    | zero => intro x1 x2 σ; exact j_none
    | succ n4 ih4 =>
      have wJ27 : ∀ (x1 : Int32) (x2 : Int32) (σ : Hp), J E 3 p l e rm1_allPrices s m args below meth c (QI E below args s rm1_allPrices.cells rm1_allPrices.slots) (f1_allPrices_J27 N b K4 (f1_allPrices_L4 N b K4 n4) x1 x2 σ) 27 [(0, .ref (ea E b)), (1, .int x1), (2, .int x2)] [] σ 0 0 := by
        intro x1 x2 σ
        unfold f1_allPrices_J27
        refine j_iinc 2 1 [(2, .int (x2 + 1)), (0, .ref (ea E b)), (1, .int x1)] C dX1_allPrices_27 rfl rfl (by decide) rfl ?_
        refine j_goto 4 C dX1_allPrices_30 (by decide) ?_
        exact j_sub [1, 2, 0] rfl (ih4 x1 (x2 + 1) σ)
      intro x1 x2 σ
      show J E 3 p l e rm1_allPrices s m args below meth c (QI E below args s rm1_allPrices.cells rm1_allPrices.slots) (f1_allPrices_B4 N b K4 (f1_allPrices_L4 N b K4 n4) x1 x2 σ) 4 [(0, .ref (ea E b)), (1, .int x1), (2, .int x2)] [] σ 0 0
      unfold f1_allPrices_B4
      refine j_iload_n 2 C dX1_allPrices_4 rfl rfl ?_
      refine j_bipush (v := 8) 8 C dX1_allPrices_5 (by decide) ?_
      refine j_ige 33 C dX1_allPrices_7 (by decide) ?_ ?_
      · exact j_sub [1] rfl (HK4 x1 σ)
      · refine j_aload_n 0 C dX1_allPrices_10 rfl rfl ?_
        refine j_get 2 C fl1_19 (E_lt hb) (ct_E E hb _) rfl dX1_allPrices_11 ?_
        refine j_iload_n 2 C dX1_allPrices_14 rfl rfl ?_
        refine j_zald C (E_lt3 hb) (ct_E3 E hb _) dX1_allPrices_15 ?_
        refine j_zeq 27 C dX1_allPrices_16 (by decide) ?_ ?_
        · exact j_sub [0, 1, 2] rfl (wJ27 x1 x2 σ)
        · refine j_iload_n 1 C dX1_allPrices_19 rfl rfl ?_
          refine j_aload_n 0 C dX1_allPrices_20 rfl rfl ?_
          refine j_iload_n 2 C dX1_allPrices_21 rfl rfl ?_
          refine j_callVI [.int x2] (con1_priceOfCells N b x2 hb) C mi1_priceOfCells mv1_priceOfCells lk1_50 (E_lt hb) (ct_E E hb _) rfl rfl rfl ⟨Nat.le_of_ble_eq_true rfl, Nat.le_of_ble_eq_true rfl, Nat.le_of_ble_eq_true rfl, Nat.le_of_ble_eq_true rfl, Nat.le_of_ble_eq_true rfl⟩ dX1_allPrices_22 (fun r22 σ22 => ?_)
          refine j_iadd C dX1_allPrices_25 ?_
          refine j_istore_n [(1, .int (x1 + r22)), (0, .ref (ea E b)), (2, .int x2)] C dX1_allPrices_26 rfl (by decide) rfl ?_
          exact j_sub [1, 0, 2] rfl (wJ27 (x1 + r22) x2 σ22)
  unfold f1_allPrices
  refine j_iconst (v := 0) 0 C dX1_allPrices_0 (by decide) ?_
  refine j_istore_n [(1, .int 0), (0, .ref (ea E b))] C dX1_allPrices_1 rfl (by decide) rfl ?_
  refine j_iconst (v := 0) 0 C dX1_allPrices_2 (by decide) ?_
  refine j_istore_n [(2, .int 0), (1, .int 0), (0, .ref (ea E b))] C dX1_allPrices_3 rfl (by decide) rfl ?_
  refine j_sub [2, 1, 0] rfl (wL4 _ (fun x1_4 σL4 => ?_) N 0 0 σ)
  refine j_iload_n 0 C dX1_allPrices_33 rfl rfl ?_
  exact j_iret C hr hlocks rfl dX1_allPrices_34 (Nat.le_of_ble_eq_true rfl) (Nat.le_of_ble_eq_true rfl)
set_option maxHeartbeats 4000000 in
set_option maxRecDepth 100000 in
theorem con5_isPage (N : Nat) (x0 : Int32) : ConI yX5_isPage cX5_isPage 1 .boolean rm5_isPage (fun E => [.int x0]) (f5_isPage N x0) := by
  refine conI_of (L := fun E => [(0, .int x0)]) (by decide) (fun _ => Nat.le_of_ble_eq_true rfl) (fun _ => rfl) ?_
  intro l E σ p e s m args below meth c C hr hlocks
  unfold f5_isPage
  refine j_iload_n 0 C dX5_isPage_0 rfl rfl ?_
  refine j_zlt 13 C dX5_isPage_1 (by decide) ?_ ?_
  · refine j_iconst (v := 0) 0 C dX5_isPage_13 (by decide) ?_
    exact j_iret C hr hlocks rfl dX5_isPage_14 (Nat.le_of_ble_eq_true rfl) (Nat.le_of_ble_eq_true rfl)
  · refine j_iload_n 0 C dX5_isPage_4 rfl rfl ?_
    refine j_iconst (v := 4) 4 C dX5_isPage_5 (by decide) ?_
    refine j_ige 13 C dX5_isPage_6 (by decide) ?_ ?_
    · refine j_iconst (v := 0) 0 C dX5_isPage_13 (by decide) ?_
      exact j_iret C hr hlocks rfl dX5_isPage_14 (Nat.le_of_ble_eq_true rfl) (Nat.le_of_ble_eq_true rfl)
    · refine j_iconst (v := 1) 1 C dX5_isPage_9 (by decide) ?_
      refine j_goto 14 C dX5_isPage_10 (by decide) ?_
      exact j_iret C hr hlocks rfl dX5_isPage_14 (Nat.le_of_ble_eq_true rfl) (Nat.le_of_ble_eq_true rfl)
set_option maxHeartbeats 4000000 in
set_option maxRecDepth 100000 in
theorem con5_isInRange (N : Nat) (x0 : Int32) (x1 : Int32) : ConI yX5_isInRange cX5_isInRange 2 .boolean rm5_isInRange (fun E => [.int x0, .int x1]) (f5_isInRange N x0 x1) := by
  refine conI_of (L := fun E => [(0, .int x0), (1, .int x1)]) (by decide) (fun _ => Nat.le_of_ble_eq_true rfl) (fun _ => rfl) ?_
  intro l E σ p e s m args below meth c C hr hlocks
  unfold f5_isInRange
  refine j_iload_n 0 C dX5_isInRange_0 rfl rfl ?_
  refine j_zlt 31 C dX5_isInRange_1 (by decide) ?_ ?_
  · refine j_iconst (v := 0) 0 C dX5_isInRange_31 (by decide) ?_
    exact j_iret C hr hlocks rfl dX5_isInRange_32 (Nat.le_of_ble_eq_true rfl) (Nat.le_of_ble_eq_true rfl)
  · refine j_iload_n 0 C dX5_isInRange_4 rfl rfl ?_
    refine j_iconst (v := 5) 5 C dX5_isInRange_5 (by decide) ?_
    refine j_ige 31 C dX5_isInRange_6 (by decide) ?_ ?_
    · refine j_iconst (v := 0) 0 C dX5_isInRange_31 (by decide) ?_
      exact j_iret C hr hlocks rfl dX5_isInRange_32 (Nat.le_of_ble_eq_true rfl) (Nat.le_of_ble_eq_true rfl)
    · refine j_iload_n 1 C dX5_isInRange_9 rfl rfl ?_
      refine j_least C lf5_364 dX5_isInRange_10 (fun t10 hT10 => ?_)
      refine j_iload_n 0 C dX5_isInRange_13 rfl rfl ?_
      refine j_sald C hT10 dX5_isInRange_14 ?_
      refine j_ilt 31 C dX5_isInRange_15 (by decide) ?_ ?_
      · refine j_iconst (v := 0) 0 C dX5_isInRange_31 (by decide) ?_
        exact j_iret C hr hlocks rfl dX5_isInRange_32 (Nat.le_of_ble_eq_true rfl) (Nat.le_of_ble_eq_true rfl)
      · refine j_iload_n 1 C dX5_isInRange_18 rfl rfl ?_
        refine j_great C lf5_368 dX5_isInRange_19 (fun t19 hT19 => ?_)
        refine j_iload_n 0 C dX5_isInRange_22 rfl rfl ?_
        refine j_sald C hT19 dX5_isInRange_23 ?_
        refine j_igt 31 C dX5_isInRange_24 (by decide) ?_ ?_
        · refine j_iconst (v := 0) 0 C dX5_isInRange_31 (by decide) ?_
          exact j_iret C hr hlocks rfl dX5_isInRange_32 (Nat.le_of_ble_eq_true rfl) (Nat.le_of_ble_eq_true rfl)
        · refine j_iconst (v := 1) 1 C dX5_isInRange_27 (by decide) ?_
          refine j_goto 32 C dX5_isInRange_28 (by decide) ?_
          exact j_iret C hr hlocks rfl dX5_isInRange_32 (Nat.le_of_ble_eq_true rfl) (Nat.le_of_ble_eq_true rfl)
set_option maxHeartbeats 4000000 in
set_option maxRecDepth 100000 in
theorem con1_faultOfStory (N : Nat) (b : Nat) (x1 : Int32) (x2 : Int32) (x3 : Int32) (x4 : Int32) (x5 : Int32) (hb : isE b) : ConI yX1_faultOfStory cX1_faultOfStory 6 .int rm1_faultOfStory (fun E => [.ref (ea E b), .int x1, .int x2, .int x3, .int x4, .int x5]) (f1_faultOfStory N b x1 x2 x3 x4 x5) := by
  refine conI_of (L := fun E => [(0, .ref (ea E b)), (1, .int x1), (2, .int x2), (3, .int x3), (4, .int x4), (5, .int x5)]) (by decide) (fun _ => Nat.le_of_ble_eq_true rfl) (fun _ => rfl) ?_
  intro l E σ p e s m args below meth c C hr hlocks
  unfold f1_faultOfStory
  refine j_iload_n 1 C dX1_faultOfStory_0 rfl rfl ?_
  refine j_callNI [.int x1] (con5_isPage N x1) C mi5_isPage ms5_isPage lk1_53 rfl rfl ⟨Nat.le_of_ble_eq_true rfl, Nat.le_of_ble_eq_true rfl, Nat.le_of_ble_eq_true rfl, Nat.le_of_ble_eq_true rfl, Nat.le_of_ble_eq_true rfl⟩ dX1_faultOfStory_1 (fun r1 σ1 => ?_)
  refine j_zne 9 C dX1_faultOfStory_4 (by decide) ?_ ?_
  · refine j_iconst (v := 1) 1 C dX1_faultOfStory_9 (by decide) ?_
    refine j_iload_n 2 C dX1_faultOfStory_10 rfl rfl ?_
    refine j_callNI [.int 1, .int x2] (con5_isInRange N 1 x2) C mi5_isInRange ms5_isInRange lk1_56 rfl rfl ⟨Nat.le_of_ble_eq_true rfl, Nat.le_of_ble_eq_true rfl, Nat.le_of_ble_eq_true rfl, Nat.le_of_ble_eq_true rfl, Nat.le_of_ble_eq_true rfl⟩ dX1_faultOfStory_11 (fun r11 σ11 => ?_)
    refine j_zeq 43 C dX1_faultOfStory_14 (by decide) ?_ ?_
    · refine j_iconst (v := 2) 2 C dX1_faultOfStory_43 (by decide) ?_
      exact j_iret C hr hlocks rfl dX1_faultOfStory_44 (Nat.le_of_ble_eq_true rfl) (Nat.le_of_ble_eq_true rfl)
    · refine j_iconst (v := 2) 2 C dX1_faultOfStory_17 (by decide) ?_
      refine j_iload_n 3 C dX1_faultOfStory_18 rfl rfl ?_
      refine j_callNI [.int 2, .int x3] (con5_isInRange N 2 x3) C mi5_isInRange ms5_isInRange lk1_56 rfl rfl ⟨Nat.le_of_ble_eq_true rfl, Nat.le_of_ble_eq_true rfl, Nat.le_of_ble_eq_true rfl, Nat.le_of_ble_eq_true rfl, Nat.le_of_ble_eq_true rfl⟩ dX1_faultOfStory_19 (fun r19 σ19 => ?_)
      refine j_zeq 43 C dX1_faultOfStory_22 (by decide) ?_ ?_
      · refine j_iconst (v := 2) 2 C dX1_faultOfStory_43 (by decide) ?_
        exact j_iret C hr hlocks rfl dX1_faultOfStory_44 (Nat.le_of_ble_eq_true rfl) (Nat.le_of_ble_eq_true rfl)
      · refine j_iconst (v := 3) 3 C dX1_faultOfStory_25 (by decide) ?_
        refine j_iload 4 C dX1_faultOfStory_26 rfl ?_
        refine j_callNI [.int 3, .int x4] (con5_isInRange N 3 x4) C mi5_isInRange ms5_isInRange lk1_56 rfl rfl ⟨Nat.le_of_ble_eq_true rfl, Nat.le_of_ble_eq_true rfl, Nat.le_of_ble_eq_true rfl, Nat.le_of_ble_eq_true rfl, Nat.le_of_ble_eq_true rfl⟩ dX1_faultOfStory_28 (fun r28 σ28 => ?_)
        refine j_zeq 43 C dX1_faultOfStory_31 (by decide) ?_ ?_
        · refine j_iconst (v := 2) 2 C dX1_faultOfStory_43 (by decide) ?_
          exact j_iret C hr hlocks rfl dX1_faultOfStory_44 (Nat.le_of_ble_eq_true rfl) (Nat.le_of_ble_eq_true rfl)
        · refine j_iconst (v := 4) 4 C dX1_faultOfStory_34 (by decide) ?_
          refine j_iload 5 C dX1_faultOfStory_35 rfl ?_
          refine j_callNI [.int 4, .int x5] (con5_isInRange N 4 x5) C mi5_isInRange ms5_isInRange lk1_56 rfl rfl ⟨Nat.le_of_ble_eq_true rfl, Nat.le_of_ble_eq_true rfl, Nat.le_of_ble_eq_true rfl, Nat.le_of_ble_eq_true rfl, Nat.le_of_ble_eq_true rfl⟩ dX1_faultOfStory_37 (fun r37 σ37 => ?_)
          refine j_zne 45 C dX1_faultOfStory_40 (by decide) ?_ ?_
          · refine j_aload_n 0 C dX1_faultOfStory_45 rfl rfl ?_
            refine j_get 4 C fl1_25 (E_lt hb) (ct_E E hb _) rfl dX1_faultOfStory_46 ?_
            refine j_bipush (v := 12) 12 C dX1_faultOfStory_49 (by decide) ?_
            refine j_ilt 58 C dX1_faultOfStory_51 (by decide) ?_ ?_
            · refine j_iconst (v := 0) 0 C dX1_faultOfStory_58 (by decide) ?_
              exact j_iret C hr hlocks rfl dX1_faultOfStory_59 (Nat.le_of_ble_eq_true rfl) (Nat.le_of_ble_eq_true rfl)
            · refine j_iconst (v := 3) 3 C dX1_faultOfStory_54 (by decide) ?_
              refine j_goto 59 C dX1_faultOfStory_55 (by decide) ?_
              exact j_iret C hr hlocks rfl dX1_faultOfStory_59 (Nat.le_of_ble_eq_true rfl) (Nat.le_of_ble_eq_true rfl)
          · refine j_iconst (v := 2) 2 C dX1_faultOfStory_43 (by decide) ?_
            exact j_iret C hr hlocks rfl dX1_faultOfStory_44 (Nat.le_of_ble_eq_true rfl) (Nat.le_of_ble_eq_true rfl)
  · refine j_iconst (v := 1) 1 C dX1_faultOfStory_7 (by decide) ?_
    exact j_iret C hr hlocks rfl dX1_faultOfStory_8 (Nat.le_of_ble_eq_true rfl) (Nat.le_of_ble_eq_true rfl)
set_option maxHeartbeats 4000000 in
set_option maxRecDepth 100000 in
theorem con1_overlap (N : Nat) (x0 : Int32) (x1 : Int32) (x2 : Int32) (x3 : Int32) : ConI yX1_overlap cX1_overlap 4 .boolean rm1_overlap (fun E => [.int x0, .int x1, .int x2, .int x3]) (f1_overlap N x0 x1 x2 x3) := by
  refine conI_of (L := fun E => [(0, .int x0), (1, .int x1), (2, .int x2), (3, .int x3)]) (by decide) (fun _ => Nat.le_of_ble_eq_true rfl) (fun _ => rfl) ?_
  intro l E σ p e s m args below meth c C hr hlocks
  unfold f1_overlap
  refine j_iload_n 0 C dX1_overlap_0 rfl rfl ?_
  refine j_iload_n 2 C dX1_overlap_1 rfl rfl ?_
  refine j_iload_n 3 C dX1_overlap_2 rfl rfl ?_
  refine j_iadd C dX1_overlap_3 ?_
  refine j_ige 18 C dX1_overlap_4 (by decide) ?_ ?_
  · refine j_iconst (v := 0) 0 C dX1_overlap_18 (by decide) ?_
    exact j_iret C hr hlocks rfl dX1_overlap_19 (Nat.le_of_ble_eq_true rfl) (Nat.le_of_ble_eq_true rfl)
  · refine j_iload_n 2 C dX1_overlap_7 rfl rfl ?_
    refine j_iload_n 0 C dX1_overlap_8 rfl rfl ?_
    refine j_iload_n 1 C dX1_overlap_9 rfl rfl ?_
    refine j_iadd C dX1_overlap_10 ?_
    refine j_ige 18 C dX1_overlap_11 (by decide) ?_ ?_
    · refine j_iconst (v := 0) 0 C dX1_overlap_18 (by decide) ?_
      exact j_iret C hr hlocks rfl dX1_overlap_19 (Nat.le_of_ble_eq_true rfl) (Nat.le_of_ble_eq_true rfl)
    · refine j_iconst (v := 1) 1 C dX1_overlap_14 (by decide) ?_
      refine j_goto 19 C dX1_overlap_15 (by decide) ?_
      exact j_iret C hr hlocks rfl dX1_overlap_19 (Nat.le_of_ble_eq_true rfl) (Nat.le_of_ble_eq_true rfl)
set_option maxHeartbeats 4000000 in
set_option maxRecDepth 100000 in
theorem con1_isTaken (N : Nat) (b : Nat) (x1 : Int32) (x2 : Int32) (x3 : Int32) (x4 : Int32) (x5 : Int32) (hb : isE b) : ConI yX1_isTaken cX1_isTaken 7 .boolean rm1_isTaken (fun E => [.ref (ea E b), .int x1, .int x2, .int x3, .int x4, .int x5]) (f1_isTaken N b x1 x2 x3 x4 x5) := by
  refine conI_of (L := fun E => [(0, .ref (ea E b)), (1, .int x1), (2, .int x2), (3, .int x3), (4, .int x4), (5, .int x5)]) (by decide) (fun _ => Nat.le_of_ble_eq_true rfl) (fun _ => rfl) ?_
  intro l E σ p e s m args below meth c C hr hlocks
  have wL3 : ∀ (K3 : Hp → Option (Int32 × Hp)), (∀ (σ : Hp), J E 7 p l e rm1_isTaken s m args below meth c (QI E below args s rm1_isTaken.cells rm1_isTaken.slots) (K3 σ) 85 [] [] σ 0 0) → ∀ (n3 : Nat) (x6 : Int32) (σ : Hp), J E 7 p l e rm1_isTaken s m args below meth c (QI E below args s rm1_isTaken.cells rm1_isTaken.slots) (f1_isTaken_L3 N b x1 x2 x3 x4 x5 K3 n3 x6 σ) 3 [(0, .ref (ea E b)), (1, .int x1), (2, .int x2), (3, .int x3), (4, .int x4), (5, .int x5), (6, .int x6)] [] σ 0 0 := by
    intro K3 HK3 n3
    induction n3 with
    | zero => intro x6 σ; exact j_none
    | succ n3 ih3 =>
      have wJ79 : ∀ (x6 : Int32) (σ : Hp), J E 7 p l e rm1_isTaken s m args below meth c (QI E below args s rm1_isTaken.cells rm1_isTaken.slots) (f1_isTaken_J79 N b x1 x2 x3 x4 x5 K3 (f1_isTaken_L3 N b x1 x2 x3 x4 x5 K3 n3) x6 σ) 79 [(0, .ref (ea E b)), (1, .int x1), (2, .int x2), (3, .int x3), (4, .int x4), (5, .int x5), (6, .int x6)] [] σ 0 0 := by
        intro x6 σ
        unfold f1_isTaken_J79
        refine j_iinc 6 1 [(6, .int (x6 + 1)), (0, .ref (ea E b)), (1, .int x1), (2, .int x2), (3, .int x3), (4, .int x4), (5, .int x5)] C dX1_isTaken_79 rfl rfl (by decide) rfl ?_
        refine j_goto 3 C dX1_isTaken_82 (by decide) ?_
        exact j_sub [1, 2, 3, 4, 5, 6, 0] rfl (ih3 (x6 + 1) σ)
      intro x6 σ
      show J E 7 p l e rm1_isTaken s m args below meth c (QI E below args s rm1_isTaken.cells rm1_isTaken.slots) (f1_isTaken_B3 N b x1 x2 x3 x4 x5 K3 (f1_isTaken_L3 N b x1 x2 x3 x4 x5 K3 n3) x6 σ) 3 [(0, .ref (ea E b)), (1, .int x1), (2, .int x2), (3, .int x3), (4, .int x4), (5, .int x5), (6, .int x6)] [] σ 0 0
      unfold f1_isTaken_B3
      refine j_iload 6 C dX1_isTaken_3 rfl ?_
      refine j_bipush (v := 8) 8 C dX1_isTaken_5 (by decide) ?_
      refine j_ige 85 C dX1_isTaken_7 (by decide) ?_ ?_
      · exact j_sub [] rfl (HK3 σ)
      · refine j_aload_n 0 C dX1_isTaken_10 rfl rfl ?_
        refine j_get 2 C fl1_19 (E_lt hb) (ct_E E hb _) rfl dX1_isTaken_11 ?_
        refine j_iload 6 C dX1_isTaken_14 rfl ?_
        refine j_zald C (E_lt3 hb) (ct_E3 E hb _) dX1_isTaken_16 ?_
        refine j_zeq 79 C dX1_isTaken_17 (by decide) ?_ ?_
        · exact j_sub [0, 1, 2, 3, 4, 5, 6] rfl (wJ79 x6 σ)
        · refine j_aload_n 0 C dX1_isTaken_20 rfl rfl ?_
          refine j_iload 6 C dX1_isTaken_21 rfl ?_
          refine j_iconst (v := 0) 0 C dX1_isTaken_23 (by decide) ?_
          refine j_callVI [.int x6, .int 0] (con1_advertisementNumber N b x6 0 hb) C mi1_advertisementNumber mv1_advertisementNumber lk1_43 (E_lt hb) (ct_E E hb _) rfl rfl rfl ⟨Nat.le_of_ble_eq_true rfl, Nat.le_of_ble_eq_true rfl, Nat.le_of_ble_eq_true rfl, Nat.le_of_ble_eq_true rfl, Nat.le_of_ble_eq_true rfl⟩ dX1_isTaken_24 (fun r24 σ24 => ?_)
          refine j_iload_n 1 C dX1_isTaken_27 rfl rfl ?_
          refine j_ine 79 C dX1_isTaken_28 (by decide) ?_ ?_
          · exact j_sub [0, 1, 2, 3, 4, 5, 6] rfl (wJ79 x6 σ24)
          · refine j_iload_n 2 C dX1_isTaken_31 rfl rfl ?_
            refine j_iload 4 C dX1_isTaken_32 rfl ?_
            refine j_aload_n 0 C dX1_isTaken_34 rfl rfl ?_
            refine j_iload 6 C dX1_isTaken_35 rfl ?_
            refine j_iconst (v := 1) 1 C dX1_isTaken_37 (by decide) ?_
            refine j_callVI [.int x6, .int 1] (con1_advertisementNumber N b x6 1 hb) C mi1_advertisementNumber mv1_advertisementNumber lk1_43 (E_lt hb) (ct_E E hb _) rfl rfl rfl ⟨Nat.le_of_ble_eq_true rfl, Nat.le_of_ble_eq_true rfl, Nat.le_of_ble_eq_true rfl, Nat.le_of_ble_eq_true rfl, Nat.le_of_ble_eq_true rfl⟩ dX1_isTaken_38 (fun r38 σ38 => ?_)
            refine j_aload_n 0 C dX1_isTaken_41 rfl rfl ?_
            refine j_iload 6 C dX1_isTaken_42 rfl ?_
            refine j_iconst (v := 3) 3 C dX1_isTaken_44 (by decide) ?_
            refine j_callVI [.int x6, .int 3] (con1_advertisementNumber N b x6 3 hb) C mi1_advertisementNumber mv1_advertisementNumber lk1_43 (E_lt hb) (ct_E E hb _) rfl rfl rfl ⟨Nat.le_of_ble_eq_true rfl, Nat.le_of_ble_eq_true rfl, Nat.le_of_ble_eq_true rfl, Nat.le_of_ble_eq_true rfl, Nat.le_of_ble_eq_true rfl⟩ dX1_isTaken_45 (fun r45 σ45 => ?_)
            refine j_callSI [.int x2, .int x4, .int r38, .int r45] (con1_overlap N x2 x4 r38 r45) C mi1_overlap ms1_overlap lk1_64 rfl rfl ⟨Nat.le_of_ble_eq_true rfl, Nat.le_of_ble_eq_true rfl, Nat.le_of_ble_eq_true rfl, Nat.le_of_ble_eq_true rfl, Nat.le_of_ble_eq_true rfl⟩ dX1_isTaken_48 (fun r48 σ48 => ?_)
            refine j_zeq 79 C dX1_isTaken_51 (by decide) ?_ ?_
            · exact j_sub [0, 1, 2, 3, 4, 5, 6] rfl (wJ79 x6 σ48)
            · refine j_iload_n 3 C dX1_isTaken_54 rfl rfl ?_
              refine j_iload 5 C dX1_isTaken_55 rfl ?_
              refine j_aload_n 0 C dX1_isTaken_57 rfl rfl ?_
              refine j_iload 6 C dX1_isTaken_58 rfl ?_
              refine j_iconst (v := 2) 2 C dX1_isTaken_60 (by decide) ?_
              refine j_callVI [.int x6, .int 2] (con1_advertisementNumber N b x6 2 hb) C mi1_advertisementNumber mv1_advertisementNumber lk1_43 (E_lt hb) (ct_E E hb _) rfl rfl rfl ⟨Nat.le_of_ble_eq_true rfl, Nat.le_of_ble_eq_true rfl, Nat.le_of_ble_eq_true rfl, Nat.le_of_ble_eq_true rfl, Nat.le_of_ble_eq_true rfl⟩ dX1_isTaken_61 (fun r61 σ61 => ?_)
              refine j_aload_n 0 C dX1_isTaken_64 rfl rfl ?_
              refine j_iload 6 C dX1_isTaken_65 rfl ?_
              refine j_iconst (v := 4) 4 C dX1_isTaken_67 (by decide) ?_
              refine j_callVI [.int x6, .int 4] (con1_advertisementNumber N b x6 4 hb) C mi1_advertisementNumber mv1_advertisementNumber lk1_43 (E_lt hb) (ct_E E hb _) rfl rfl rfl ⟨Nat.le_of_ble_eq_true rfl, Nat.le_of_ble_eq_true rfl, Nat.le_of_ble_eq_true rfl, Nat.le_of_ble_eq_true rfl, Nat.le_of_ble_eq_true rfl⟩ dX1_isTaken_68 (fun r68 σ68 => ?_)
              refine j_callSI [.int x3, .int x5, .int r61, .int r68] (con1_overlap N x3 x5 r61 r68) C mi1_overlap ms1_overlap lk1_64 rfl rfl ⟨Nat.le_of_ble_eq_true rfl, Nat.le_of_ble_eq_true rfl, Nat.le_of_ble_eq_true rfl, Nat.le_of_ble_eq_true rfl, Nat.le_of_ble_eq_true rfl⟩ dX1_isTaken_71 (fun r71 σ71 => ?_)
              refine j_zeq 79 C dX1_isTaken_74 (by decide) ?_ ?_
              · exact j_sub [0, 1, 2, 3, 4, 5, 6] rfl (wJ79 x6 σ71)
              · refine j_iconst (v := 1) 1 C dX1_isTaken_77 (by decide) ?_
                exact j_iret C hr hlocks rfl dX1_isTaken_78 (Nat.le_of_ble_eq_true rfl) (Nat.le_of_ble_eq_true rfl)
  unfold f1_isTaken
  refine j_iconst (v := 0) 0 C dX1_isTaken_0 (by decide) ?_
  refine j_istore [(6, .int 0), (0, .ref (ea E b)), (1, .int x1), (2, .int x2), (3, .int x3), (4, .int x4), (5, .int x5)] C dX1_isTaken_1 (by decide) rfl ?_
  refine j_sub [1, 2, 3, 4, 5, 6, 0] rfl (wL3 _ (fun σL3 => ?_) N 0 σ)
  refine j_iconst (v := 0) 0 C dX1_isTaken_85 (by decide) ?_
  exact j_iret C hr hlocks rfl dX1_isTaken_86 (Nat.le_of_ble_eq_true rfl) (Nat.le_of_ble_eq_true rfl)
set_option maxHeartbeats 4000000 in
set_option maxRecDepth 100000 in
theorem con1_faultOfAdvertisement (N : Nat) (b : Nat) (x1 : Int32) (x2 : Int32) (x3 : Int32) (x4 : Int32) (x5 : Int32) (x6 : Int32) (hb : isE b) : ConI yX1_faultOfAdvertisement cX1_faultOfAdvertisement 7 .int rm1_faultOfAdvertisement (fun E => [.ref (ea E b), .int x1, .int x2, .int x3, .int x4, .int x5, .int x6]) (f1_faultOfAdvertisement N b x1 x2 x3 x4 x5 x6) := by
  refine conI_of (L := fun E => [(0, .ref (ea E b)), (1, .int x1), (2, .int x2), (3, .int x3), (4, .int x4), (5, .int x5), (6, .int x6)]) (by decide) (fun _ => Nat.le_of_ble_eq_true rfl) (fun _ => rfl) ?_
  intro l E σ p e s m args below meth c C hr hlocks
  unfold f1_faultOfAdvertisement
  refine j_iload_n 1 C dX1_faultOfAdvertisement_0 rfl rfl ?_
  refine j_callNI [.int x1] (con5_isPage N x1) C mi5_isPage ms5_isPage lk1_53 rfl rfl ⟨Nat.le_of_ble_eq_true rfl, Nat.le_of_ble_eq_true rfl, Nat.le_of_ble_eq_true rfl, Nat.le_of_ble_eq_true rfl, Nat.le_of_ble_eq_true rfl⟩ dX1_faultOfAdvertisement_1 (fun r1 σ1 => ?_)
  refine j_zeq 55 C dX1_faultOfAdvertisement_4 (by decide) ?_ ?_
  · refine j_iconst (v := 1) 1 C dX1_faultOfAdvertisement_55 (by decide) ?_
    exact j_iret C hr hlocks rfl dX1_faultOfAdvertisement_56 (Nat.le_of_ble_eq_true rfl) (Nat.le_of_ble_eq_true rfl)
  · refine j_iload_n 2 C dX1_faultOfAdvertisement_7 rfl rfl ?_
    refine j_zlt 55 C dX1_faultOfAdvertisement_8 (by decide) ?_ ?_
    · refine j_iconst (v := 1) 1 C dX1_faultOfAdvertisement_55 (by decide) ?_
      exact j_iret C hr hlocks rfl dX1_faultOfAdvertisement_56 (Nat.le_of_ble_eq_true rfl) (Nat.le_of_ble_eq_true rfl)
    · refine j_iload_n 2 C dX1_faultOfAdvertisement_11 rfl rfl ?_
      refine j_iconst (v := 5) 5 C dX1_faultOfAdvertisement_12 (by decide) ?_
      refine j_ige 55 C dX1_faultOfAdvertisement_13 (by decide) ?_ ?_
      · refine j_iconst (v := 1) 1 C dX1_faultOfAdvertisement_55 (by decide) ?_
        exact j_iret C hr hlocks rfl dX1_faultOfAdvertisement_56 (Nat.le_of_ble_eq_true rfl) (Nat.le_of_ble_eq_true rfl)
      · refine j_iload_n 3 C dX1_faultOfAdvertisement_16 rfl rfl ?_
        refine j_zlt 55 C dX1_faultOfAdvertisement_17 (by decide) ?_ ?_
        · refine j_iconst (v := 1) 1 C dX1_faultOfAdvertisement_55 (by decide) ?_
          exact j_iret C hr hlocks rfl dX1_faultOfAdvertisement_56 (Nat.le_of_ble_eq_true rfl) (Nat.le_of_ble_eq_true rfl)
        · refine j_iload_n 3 C dX1_faultOfAdvertisement_20 rfl rfl ?_
          refine j_bipush (v := 24) 24 C dX1_faultOfAdvertisement_21 (by decide) ?_
          refine j_ige 55 C dX1_faultOfAdvertisement_23 (by decide) ?_ ?_
          · refine j_iconst (v := 1) 1 C dX1_faultOfAdvertisement_55 (by decide) ?_
            exact j_iret C hr hlocks rfl dX1_faultOfAdvertisement_56 (Nat.le_of_ble_eq_true rfl) (Nat.le_of_ble_eq_true rfl)
          · refine j_iload 4 C dX1_faultOfAdvertisement_26 rfl ?_
            refine j_iconst (v := 1) 1 C dX1_faultOfAdvertisement_28 (by decide) ?_
            refine j_ilt 55 C dX1_faultOfAdvertisement_29 (by decide) ?_ ?_
            · refine j_iconst (v := 1) 1 C dX1_faultOfAdvertisement_55 (by decide) ?_
              exact j_iret C hr hlocks rfl dX1_faultOfAdvertisement_56 (Nat.le_of_ble_eq_true rfl) (Nat.le_of_ble_eq_true rfl)
            · refine j_iload 4 C dX1_faultOfAdvertisement_32 rfl ?_
              refine j_iconst (v := 5) 5 C dX1_faultOfAdvertisement_34 (by decide) ?_
              refine j_iload_n 2 C dX1_faultOfAdvertisement_35 rfl rfl ?_
              refine j_isub C dX1_faultOfAdvertisement_36 ?_
              refine j_igt 55 C dX1_faultOfAdvertisement_37 (by decide) ?_ ?_
              · refine j_iconst (v := 1) 1 C dX1_faultOfAdvertisement_55 (by decide) ?_
                exact j_iret C hr hlocks rfl dX1_faultOfAdvertisement_56 (Nat.le_of_ble_eq_true rfl) (Nat.le_of_ble_eq_true rfl)
              · refine j_iload 5 C dX1_faultOfAdvertisement_40 rfl ?_
                refine j_iconst (v := 1) 1 C dX1_faultOfAdvertisement_42 (by decide) ?_
                refine j_ilt 55 C dX1_faultOfAdvertisement_43 (by decide) ?_ ?_
                · refine j_iconst (v := 1) 1 C dX1_faultOfAdvertisement_55 (by decide) ?_
                  exact j_iret C hr hlocks rfl dX1_faultOfAdvertisement_56 (Nat.le_of_ble_eq_true rfl) (Nat.le_of_ble_eq_true rfl)
                · refine j_iload 5 C dX1_faultOfAdvertisement_46 rfl ?_
                  refine j_bipush (v := 24) 24 C dX1_faultOfAdvertisement_48 (by decide) ?_
                  refine j_iload_n 3 C dX1_faultOfAdvertisement_50 rfl rfl ?_
                  refine j_isub C dX1_faultOfAdvertisement_51 ?_
                  refine j_ile 57 C dX1_faultOfAdvertisement_52 (by decide) ?_ ?_
                  · refine j_iload 6 C dX1_faultOfAdvertisement_57 rfl ?_
                    refine j_iconst (v := 1) 1 C dX1_faultOfAdvertisement_59 (by decide) ?_
                    refine j_ilt 71 C dX1_faultOfAdvertisement_60 (by decide) ?_ ?_
                    · refine j_iconst (v := 2) 2 C dX1_faultOfAdvertisement_71 (by decide) ?_
                      exact j_iret C hr hlocks rfl dX1_faultOfAdvertisement_72 (Nat.le_of_ble_eq_true rfl) (Nat.le_of_ble_eq_true rfl)
                    · refine j_iload 6 C dX1_faultOfAdvertisement_63 rfl ?_
                      refine j_sipush (v := 999) 999 C dX1_faultOfAdvertisement_65 (by decide) ?_
                      refine j_ile 73 C dX1_faultOfAdvertisement_68 (by decide) ?_ ?_
                      · refine j_aload_n 0 C dX1_faultOfAdvertisement_73 rfl rfl ?_
                        refine j_get 5 C fl1_29 (E_lt hb) (ct_E E hb _) rfl dX1_faultOfAdvertisement_74 ?_
                        refine j_bipush (v := 8) 8 C dX1_faultOfAdvertisement_77 (by decide) ?_
                        refine j_ige 96 C dX1_faultOfAdvertisement_79 (by decide) ?_ ?_
                        · refine j_iconst (v := 3) 3 C dX1_faultOfAdvertisement_96 (by decide) ?_
                          exact j_iret C hr hlocks rfl dX1_faultOfAdvertisement_97 (Nat.le_of_ble_eq_true rfl) (Nat.le_of_ble_eq_true rfl)
                        · refine j_aload_n 0 C dX1_faultOfAdvertisement_82 rfl rfl ?_
                          refine j_iload_n 1 C dX1_faultOfAdvertisement_83 rfl rfl ?_
                          refine j_iload_n 2 C dX1_faultOfAdvertisement_84 rfl rfl ?_
                          refine j_iload_n 3 C dX1_faultOfAdvertisement_85 rfl rfl ?_
                          refine j_iload 4 C dX1_faultOfAdvertisement_86 rfl ?_
                          refine j_iload 5 C dX1_faultOfAdvertisement_88 rfl ?_
                          refine j_callVI [.int x1, .int x2, .int x3, .int x4, .int x5] (con1_isTaken N b x1 x2 x3 x4 x5 hb) C mi1_isTaken mv1_isTaken lk1_60 (E_lt hb) (ct_E E hb _) rfl rfl rfl ⟨Nat.le_of_ble_eq_true rfl, Nat.le_of_ble_eq_true rfl, Nat.le_of_ble_eq_true rfl, Nat.le_of_ble_eq_true rfl, Nat.le_of_ble_eq_true rfl⟩ dX1_faultOfAdvertisement_90 (fun r90 σ90 => ?_)
                          refine j_zeq 98 C dX1_faultOfAdvertisement_93 (by decide) ?_ ?_
                          · refine j_iconst (v := 0) 0 C dX1_faultOfAdvertisement_98 (by decide) ?_
                            exact j_iret C hr hlocks rfl dX1_faultOfAdvertisement_99 (Nat.le_of_ble_eq_true rfl) (Nat.le_of_ble_eq_true rfl)
                          · refine j_iconst (v := 3) 3 C dX1_faultOfAdvertisement_96 (by decide) ?_
                            exact j_iret C hr hlocks rfl dX1_faultOfAdvertisement_97 (Nat.le_of_ble_eq_true rfl) (Nat.le_of_ble_eq_true rfl)
                      · refine j_iconst (v := 2) 2 C dX1_faultOfAdvertisement_71 (by decide) ?_
                        exact j_iret C hr hlocks rfl dX1_faultOfAdvertisement_72 (Nat.le_of_ble_eq_true rfl) (Nat.le_of_ble_eq_true rfl)
                  · refine j_iconst (v := 1) 1 C dX1_faultOfAdvertisement_55 (by decide) ?_
                    exact j_iret C hr hlocks rfl dX1_faultOfAdvertisement_56 (Nat.le_of_ble_eq_true rfl) (Nat.le_of_ble_eq_true rfl)
set_option maxHeartbeats 4000000 in
set_option maxRecDepth 100000 in
theorem con1_faultOfPhoto (N : Nat) (b : Nat) (x1 : Int32) (x2 : Int32) (x3 : Int32) (hb : isE b) : ConI yX1_faultOfPhoto cX1_faultOfPhoto 4 .int rm1_faultOfPhoto (fun E => [.ref (ea E b), .int x1, .int x2, .int x3]) (f1_faultOfPhoto N b x1 x2 x3) := by
  refine conI_of (L := fun E => [(0, .ref (ea E b)), (1, .int x1), (2, .int x2), (3, .int x3)]) (by decide) (fun _ => Nat.le_of_ble_eq_true rfl) (fun _ => rfl) ?_
  intro l E σ p e s m args below meth c C hr hlocks
  unfold f1_faultOfPhoto
  refine j_aload_n 0 C dX1_faultOfPhoto_0 rfl rfl ?_
  refine j_iload_n 1 C dX1_faultOfPhoto_1 rfl rfl ?_
  refine j_callVI [.int x1] (con1_hasStory N b x1 hb) C mi1_hasStory mv1_hasStory lk1_68 (E_lt hb) (ct_E E hb _) rfl rfl rfl ⟨Nat.le_of_ble_eq_true rfl, Nat.le_of_ble_eq_true rfl, Nat.le_of_ble_eq_true rfl, Nat.le_of_ble_eq_true rfl, Nat.le_of_ble_eq_true rfl⟩ dX1_faultOfPhoto_2 (fun r2 σ2 => ?_)
  refine j_zne 10 C dX1_faultOfPhoto_5 (by decide) ?_ ?_
  · refine j_iload_n 2 C dX1_faultOfPhoto_10 rfl rfl ?_
    refine j_zne 24 C dX1_faultOfPhoto_11 (by decide) ?_ ?_
    · refine j_iload_n 2 C dX1_faultOfPhoto_24 rfl rfl ?_
      refine j_iconst (v := 2) 2 C dX1_faultOfPhoto_25 (by decide) ?_
      refine j_ilt 44 C dX1_faultOfPhoto_26 (by decide) ?_ ?_
      · refine j_iconst (v := 2) 2 C dX1_faultOfPhoto_44 (by decide) ?_
        exact j_iret C hr hlocks rfl dX1_faultOfPhoto_45 (Nat.le_of_ble_eq_true rfl) (Nat.le_of_ble_eq_true rfl)
      · refine j_iload_n 2 C dX1_faultOfPhoto_29 rfl rfl ?_
        refine j_bipush (v := 8) 8 C dX1_faultOfPhoto_30 (by decide) ?_
        refine j_igt 44 C dX1_faultOfPhoto_32 (by decide) ?_ ?_
        · refine j_iconst (v := 2) 2 C dX1_faultOfPhoto_44 (by decide) ?_
          exact j_iret C hr hlocks rfl dX1_faultOfPhoto_45 (Nat.le_of_ble_eq_true rfl) (Nat.le_of_ble_eq_true rfl)
        · refine j_iload_n 3 C dX1_faultOfPhoto_35 rfl rfl ?_
          refine j_zlt 44 C dX1_faultOfPhoto_36 (by decide) ?_ ?_
          · refine j_iconst (v := 2) 2 C dX1_faultOfPhoto_44 (by decide) ?_
            exact j_iret C hr hlocks rfl dX1_faultOfPhoto_45 (Nat.le_of_ble_eq_true rfl) (Nat.le_of_ble_eq_true rfl)
          · refine j_iload_n 3 C dX1_faultOfPhoto_39 rfl rfl ?_
            refine j_iconst (v := 2) 2 C dX1_faultOfPhoto_40 (by decide) ?_
            refine j_ile 46 C dX1_faultOfPhoto_41 (by decide) ?_ ?_
            · refine j_iconst (v := 0) 0 C dX1_faultOfPhoto_46 (by decide) ?_
              exact j_iret C hr hlocks rfl dX1_faultOfPhoto_47 (Nat.le_of_ble_eq_true rfl) (Nat.le_of_ble_eq_true rfl)
            · refine j_iconst (v := 2) 2 C dX1_faultOfPhoto_44 (by decide) ?_
              exact j_iret C hr hlocks rfl dX1_faultOfPhoto_45 (Nat.le_of_ble_eq_true rfl) (Nat.le_of_ble_eq_true rfl)
    · refine j_iload_n 3 C dX1_faultOfPhoto_14 rfl rfl ?_
      refine j_zne 22 C dX1_faultOfPhoto_15 (by decide) ?_ ?_
      · refine j_iconst (v := 2) 2 C dX1_faultOfPhoto_22 (by decide) ?_
        exact j_iret C hr hlocks rfl dX1_faultOfPhoto_23 (Nat.le_of_ble_eq_true rfl) (Nat.le_of_ble_eq_true rfl)
      · refine j_iconst (v := 0) 0 C dX1_faultOfPhoto_18 (by decide) ?_
        refine j_goto 23 C dX1_faultOfPhoto_19 (by decide) ?_
        exact j_iret C hr hlocks rfl dX1_faultOfPhoto_23 (Nat.le_of_ble_eq_true rfl) (Nat.le_of_ble_eq_true rfl)
  · refine j_iconst (v := 1) 1 C dX1_faultOfPhoto_8 (by decide) ?_
    exact j_iret C hr hlocks rfl dX1_faultOfPhoto_9 (Nat.le_of_ble_eq_true rfl) (Nat.le_of_ble_eq_true rfl)
set_option maxHeartbeats 4000000 in
set_option maxRecDepth 100000 in
theorem con1_putStoryNumber (N : Nat) (b : Nat) (x1 : Int32) (x2 : Int32) (x3 : Int32) (hb : isE b) : ConV yX1_putStoryNumber cX1_putStoryNumber 4 rm1_putStoryNumber (fun E => [.ref (ea E b), .int x1, .int x2, .int x3]) (f1_putStoryNumber N b x1 x2 x3) := by
  refine conV_of (L := fun E => [(0, .ref (ea E b)), (1, .int x1), (2, .int x2), (3, .int x3)]) (by decide) (fun _ => Nat.le_of_ble_eq_true rfl) (fun _ => rfl) ?_
  intro l E σ p e s m args below meth c C hr hlocks
  unfold f1_putStoryNumber
  refine j_iload_n 1 C dX1_putStoryNumber_0 rfl rfl ?_
  refine j_callNI [.int x1] (con5_isStoryIndex N x1) C mi5_isStoryIndex ms5_isStoryIndex lk1_32 rfl rfl ⟨Nat.le_of_ble_eq_true rfl, Nat.le_of_ble_eq_true rfl, Nat.le_of_ble_eq_true rfl, Nat.le_of_ble_eq_true rfl, Nat.le_of_ble_eq_true rfl⟩ dX1_putStoryNumber_1 (fun r1 σ1 => ?_)
  refine j_zeq 29 C dX1_putStoryNumber_4 (by decide) ?_ ?_
  · exact j_vret C hr hlocks dX1_putStoryNumber_29 (Nat.le_of_ble_eq_true rfl) (Nat.le_of_ble_eq_true rfl)
  · refine j_iload_n 2 C dX1_putStoryNumber_7 rfl rfl ?_
    refine j_zlt 29 C dX1_putStoryNumber_8 (by decide) ?_ ?_
    · exact j_vret C hr hlocks dX1_putStoryNumber_29 (Nat.le_of_ble_eq_true rfl) (Nat.le_of_ble_eq_true rfl)
    · refine j_iload_n 2 C dX1_putStoryNumber_11 rfl rfl ?_
      refine j_bipush (v := 8) 8 C dX1_putStoryNumber_12 (by decide) ?_
      refine j_ige 29 C dX1_putStoryNumber_14 (by decide) ?_ ?_
      · exact j_vret C hr hlocks dX1_putStoryNumber_29 (Nat.le_of_ble_eq_true rfl) (Nat.le_of_ble_eq_true rfl)
      · refine j_aload_n 0 C dX1_putStoryNumber_17 rfl rfl ?_
        refine j_get 1 C fl1_15 (E_lt hb) (ct_E E hb _) rfl dX1_putStoryNumber_18 ?_
        refine j_iload_n 1 C dX1_putStoryNumber_21 rfl rfl ?_
        refine j_bipush (v := 8) 8 C dX1_putStoryNumber_22 (by decide) ?_
        refine j_imul C dX1_putStoryNumber_24 ?_
        refine j_iload_n 2 C dX1_putStoryNumber_25 rfl rfl ?_
        refine j_iadd C dX1_putStoryNumber_26 ?_
        refine j_iload_n 3 C dX1_putStoryNumber_27 rfl rfl ?_
        refine j_iast C (E_lt2 hb) (ct_E2 E hb) dX1_putStoryNumber_28 ?_
        exact j_vret C hr hlocks dX1_putStoryNumber_29 (Nat.le_of_ble_eq_true rfl) (Nat.le_of_ble_eq_true rfl)
set_option maxHeartbeats 4000000 in
set_option maxRecDepth 100000 in
theorem con1_putPhoto (N : Nat) (b : Nat) (x1 : Int32) (x2 : Int32) (x3 : Int32) (hb : isE b) : ConV yX1_putPhoto cX1_putPhoto 4 rm1_putPhoto (fun E => [.ref (ea E b), .int x1, .int x2, .int x3]) (f1_putPhoto N b x1 x2 x3) := by
  refine conV_of (L := fun E => [(0, .ref (ea E b)), (1, .int x1), (2, .int x2), (3, .int x3)]) (by decide) (fun _ => Nat.le_of_ble_eq_true rfl) (fun _ => rfl) ?_
  intro l E σ p e s m args below meth c C hr hlocks
  unfold f1_putPhoto
  refine j_aload_n 0 C dX1_putPhoto_0 rfl rfl ?_
  refine j_iload_n 1 C dX1_putPhoto_1 rfl rfl ?_
  refine j_iconst (v := 5) 5 C dX1_putPhoto_2 (by decide) ?_
  refine j_iload_n 2 C dX1_putPhoto_3 rfl rfl ?_
  refine j_callVV [.int x1, .int 5, .int x2] (con1_putStoryNumber N b x1 5 x2 hb) C mi1_putStoryNumber mv1_putStoryNumber lk1_71 (E_lt hb) (ct_E E hb _) rfl rfl rfl ⟨Nat.le_of_ble_eq_true rfl, Nat.le_of_ble_eq_true rfl, Nat.le_of_ble_eq_true rfl, Nat.le_of_ble_eq_true rfl, Nat.le_of_ble_eq_true rfl⟩ dX1_putPhoto_4 (fun σ4 => ?_)
  refine j_aload_n 0 C dX1_putPhoto_7 rfl rfl ?_
  refine j_iload_n 1 C dX1_putPhoto_8 rfl rfl ?_
  refine j_bipush (v := 6) 6 C dX1_putPhoto_9 (by decide) ?_
  refine j_iload_n 3 C dX1_putPhoto_11 rfl rfl ?_
  refine j_callVV [.int x1, .int 6, .int x3] (con1_putStoryNumber N b x1 6 x3 hb) C mi1_putStoryNumber mv1_putStoryNumber lk1_71 (E_lt hb) (ct_E E hb _) rfl rfl rfl ⟨Nat.le_of_ble_eq_true rfl, Nat.le_of_ble_eq_true rfl, Nat.le_of_ble_eq_true rfl, Nat.le_of_ble_eq_true rfl, Nat.le_of_ble_eq_true rfl⟩ dX1_putPhoto_12 (fun σ12 => ?_)
  exact j_vret C hr hlocks dX1_putPhoto_15 (Nat.le_of_ble_eq_true rfl) (Nat.le_of_ble_eq_true rfl)
set_option maxHeartbeats 4000000 in
set_option maxRecDepth 100000 in
theorem con1_putLate (N : Nat) (b : Nat) (x1 : Int32) (x2 : Int32) (hb : isE b) : ConV yX1_putLate cX1_putLate 3 rm1_putLate (fun E => [.ref (ea E b), .int x1, .int x2]) (f1_putLate N b x1 x2) := by
  refine conV_of (L := fun E => [(0, .ref (ea E b)), (1, .int x1), (2, .int x2)]) (by decide) (fun _ => Nat.le_of_ble_eq_true rfl) (fun _ => rfl) ?_
  intro l E σ p e s m args below meth c C hr hlocks
  have wJ13 : ∀ (y0 : Int32) (y1 : Int32) (y2 : Int32) (σ : Hp), J E 3 p l e rm1_putLate s m args below meth c (QV E below args s rm1_putLate.cells rm1_putLate.slots) (f1_putLate_J13 N b x1 x2 y0 y1 y2 σ) 13 [] [.int y0, .int y1, .int y2, .ref (ea E b)] σ 0 0 := by
    intro y0 y1 y2 σ
    unfold f1_putLate_J13
    refine j_callVV [.int y2, .int y1, .int y0] (con1_putStoryNumber N b y2 y1 y0 hb) C mi1_putStoryNumber mv1_putStoryNumber lk1_71 (E_lt hb) (ct_E E hb _) rfl rfl rfl ⟨Nat.le_of_ble_eq_true rfl, Nat.le_of_ble_eq_true rfl, Nat.le_of_ble_eq_true rfl, Nat.le_of_ble_eq_true rfl, Nat.le_of_ble_eq_true rfl⟩ dX1_putLate_13 (fun σ13 => ?_)
    exact j_vret C hr hlocks dX1_putLate_16 (Nat.le_of_ble_eq_true rfl) (Nat.le_of_ble_eq_true rfl)
  unfold f1_putLate
  refine j_aload_n 0 C dX1_putLate_0 rfl rfl ?_
  refine j_iload_n 1 C dX1_putLate_1 rfl rfl ?_
  refine j_bipush (v := 7) 7 C dX1_putLate_2 (by decide) ?_
  refine j_iload_n 2 C dX1_putLate_4 rfl rfl ?_
  refine j_zeq 12 C dX1_putLate_5 (by decide) ?_ ?_
  · refine j_iconst (v := 0) 0 C dX1_putLate_12 (by decide) ?_
    exact j_sub [] rfl (wJ13 0 7 x1 σ)
  · refine j_iconst (v := 1) 1 C dX1_putLate_8 (by decide) ?_
    refine j_goto 13 C dX1_putLate_9 (by decide) ?_
    exact j_sub [] rfl (wJ13 1 7 x1 σ)
set_option maxHeartbeats 4000000 in
set_option maxRecDepth 100000 in
theorem con1_putStory (N : Nat) (b : Nat) (x1 : Int32) (x2 : Int32) (x3 : Int32) (x4 : Int32) (x5 : Int32) (hb : isE b) : ConI yX1_putStory cX1_putStory 7 .int rm1_putStory (fun E => [.ref (ea E b), .int x1, .int x2, .int x3, .int x4, .int x5]) (f1_putStory N b x1 x2 x3 x4 x5) := by
  refine conI_of (L := fun E => [(0, .ref (ea E b)), (1, .int x1), (2, .int x2), (3, .int x3), (4, .int x4), (5, .int x5)]) (by decide) (fun _ => Nat.le_of_ble_eq_true rfl) (fun _ => rfl) ?_
  intro l E σ p e s m args below meth c C hr hlocks
  unfold f1_putStory
  refine j_aload_n 0 C dX1_putStory_0 rfl rfl ?_
  refine j_get 4 C fl1_25 (E_lt hb) (ct_E E hb _) rfl dX1_putStory_1 ?_
  refine j_istore [(6, .int (σ b 4)), (0, .ref (ea E b)), (1, .int x1), (2, .int x2), (3, .int x3), (4, .int x4), (5, .int x5)] C dX1_putStory_4 (by decide) rfl ?_
  refine j_iload 0 C dX1_putStory_6 rfl ?_
  refine j_callNI [.int (σ b 4)] (con5_isStoryIndex N (σ b 4)) C mi5_isStoryIndex ms5_isStoryIndex lk1_32 rfl rfl ⟨Nat.le_of_ble_eq_true rfl, Nat.le_of_ble_eq_true rfl, Nat.le_of_ble_eq_true rfl, Nat.le_of_ble_eq_true rfl, Nat.le_of_ble_eq_true rfl⟩ dX1_putStory_8 (fun r8 σ8 => ?_)
  refine j_zne 16 C dX1_putStory_11 (by decide) ?_ ?_
  · refine j_aload_n 1 C dX1_putStory_16 rfl rfl ?_
    refine j_iload 0 C dX1_putStory_17 rfl ?_
    refine j_iconst (v := 1) 1 C dX1_putStory_19 (by decide) ?_
    refine j_iadd C dX1_putStory_20 ?_
    refine j_put 4 C fl1_25 rfl rfl rfl (E_lt hb) (ct_E E hb _) (Nat.le_of_ble_eq_true rfl) (ct_E E hb _) dX1_putStory_21 ?_
    refine j_aload_n 1 C dX1_putStory_24 rfl rfl ?_
    refine j_get 0 C fl1_9 (E_lt hb) (ct_E E hb _) rfl dX1_putStory_25 ?_
    refine j_iload 0 C dX1_putStory_28 rfl ?_
    refine j_iconst (v := 1) 1 C dX1_putStory_30 (by decide) ?_
    refine j_zast C (E_lt1 hb) (ct_E1 E hb) dX1_putStory_31 ?_
    refine j_aload_n 1 C dX1_putStory_32 rfl rfl ?_
    refine j_iload 0 C dX1_putStory_33 rfl ?_
    refine j_iconst (v := 0) 0 C dX1_putStory_35 (by decide) ?_
    refine j_iload_n 2 C dX1_putStory_36 rfl rfl ?_
    refine j_callVV [.int (σ b 4), .int 0, .int x1] (con1_putStoryNumber N b (σ b 4) 0 x1 hb) C mi1_putStoryNumber mv1_putStoryNumber lk1_71 (E_lt hb) (ct_E E hb _) rfl rfl rfl ⟨Nat.le_of_ble_eq_true rfl, Nat.le_of_ble_eq_true rfl, Nat.le_of_ble_eq_true rfl, Nat.le_of_ble_eq_true rfl, Nat.le_of_ble_eq_true rfl⟩ dX1_putStory_37 (fun σ37 => ?_)
    refine j_aload_n 1 C dX1_putStory_40 rfl rfl ?_
    refine j_iload 0 C dX1_putStory_41 rfl ?_
    refine j_iconst (v := 1) 1 C dX1_putStory_43 (by decide) ?_
    refine j_iload_n 3 C dX1_putStory_44 rfl rfl ?_
    refine j_callVV [.int (σ b 4), .int 1, .int x2] (con1_putStoryNumber N b (σ b 4) 1 x2 hb) C mi1_putStoryNumber mv1_putStoryNumber lk1_71 (E_lt hb) (ct_E E hb _) rfl rfl rfl ⟨Nat.le_of_ble_eq_true rfl, Nat.le_of_ble_eq_true rfl, Nat.le_of_ble_eq_true rfl, Nat.le_of_ble_eq_true rfl, Nat.le_of_ble_eq_true rfl⟩ dX1_putStory_45 (fun σ45 => ?_)
    refine j_aload_n 1 C dX1_putStory_48 rfl rfl ?_
    refine j_iload 0 C dX1_putStory_49 rfl ?_
    refine j_iconst (v := 2) 2 C dX1_putStory_51 (by decide) ?_
    refine j_iload_n 4 C dX1_putStory_52 rfl rfl ?_
    refine j_callVV [.int (σ b 4), .int 2, .int x3] (con1_putStoryNumber N b (σ b 4) 2 x3 hb) C mi1_putStoryNumber mv1_putStoryNumber lk1_71 (E_lt hb) (ct_E E hb _) rfl rfl rfl ⟨Nat.le_of_ble_eq_true rfl, Nat.le_of_ble_eq_true rfl, Nat.le_of_ble_eq_true rfl, Nat.le_of_ble_eq_true rfl, Nat.le_of_ble_eq_true rfl⟩ dX1_putStory_53 (fun σ53 => ?_)
    refine j_aload_n 1 C dX1_putStory_56 rfl rfl ?_
    refine j_iload 0 C dX1_putStory_57 rfl ?_
    refine j_iconst (v := 3) 3 C dX1_putStory_59 (by decide) ?_
    refine j_iload 5 C dX1_putStory_60 rfl ?_
    refine j_callVV [.int (σ b 4), .int 3, .int x4] (con1_putStoryNumber N b (σ b 4) 3 x4 hb) C mi1_putStoryNumber mv1_putStoryNumber lk1_71 (E_lt hb) (ct_E E hb _) rfl rfl rfl ⟨Nat.le_of_ble_eq_true rfl, Nat.le_of_ble_eq_true rfl, Nat.le_of_ble_eq_true rfl, Nat.le_of_ble_eq_true rfl, Nat.le_of_ble_eq_true rfl⟩ dX1_putStory_62 (fun σ62 => ?_)
    refine j_aload_n 1 C dX1_putStory_65 rfl rfl ?_
    refine j_iload 0 C dX1_putStory_66 rfl ?_
    refine j_iconst (v := 4) 4 C dX1_putStory_68 (by decide) ?_
    refine j_iload 6 C dX1_putStory_69 rfl ?_
    refine j_callVV [.int (σ b 4), .int 4, .int x5] (con1_putStoryNumber N b (σ b 4) 4 x5 hb) C mi1_putStoryNumber mv1_putStoryNumber lk1_71 (E_lt hb) (ct_E E hb _) rfl rfl rfl ⟨Nat.le_of_ble_eq_true rfl, Nat.le_of_ble_eq_true rfl, Nat.le_of_ble_eq_true rfl, Nat.le_of_ble_eq_true rfl, Nat.le_of_ble_eq_true rfl⟩ dX1_putStory_71 (fun σ71 => ?_)
    refine j_aload_n 1 C dX1_putStory_74 rfl rfl ?_
    refine j_iload 0 C dX1_putStory_75 rfl ?_
    refine j_iconst (v := 0) 0 C dX1_putStory_77 (by decide) ?_
    refine j_iconst (v := 0) 0 C dX1_putStory_78 (by decide) ?_
    refine j_callVV [.int (σ b 4), .int 0, .int 0] (con1_putPhoto N b (σ b 4) 0 0 hb) C mi1_putPhoto mv1_putPhoto lk1_75 (E_lt hb) (ct_E E hb _) rfl rfl rfl ⟨Nat.le_of_ble_eq_true rfl, Nat.le_of_ble_eq_true rfl, Nat.le_of_ble_eq_true rfl, Nat.le_of_ble_eq_true rfl, Nat.le_of_ble_eq_true rfl⟩ dX1_putStory_79 (fun σ79 => ?_)
    refine j_aload_n 1 C dX1_putStory_82 rfl rfl ?_
    refine j_iload 0 C dX1_putStory_83 rfl ?_
    refine j_iconst (v := 0) 0 C dX1_putStory_85 (by decide) ?_
    refine j_callVV [.int (σ b 4), .int 0] (con1_putLate N b (σ b 4) 0 hb) C mi1_putLate mv1_putLate lk1_78 (E_lt hb) (ct_E E hb _) rfl rfl rfl ⟨Nat.le_of_ble_eq_true rfl, Nat.le_of_ble_eq_true rfl, Nat.le_of_ble_eq_true rfl, Nat.le_of_ble_eq_true rfl, Nat.le_of_ble_eq_true rfl⟩ dX1_putStory_86 (fun σ86 => ?_)
    refine j_iload 0 C dX1_putStory_89 rfl ?_
    exact j_iret C hr hlocks rfl dX1_putStory_91 (Nat.le_of_ble_eq_true rfl) (Nat.le_of_ble_eq_true rfl)
  · refine j_iconst (v := (-1)) (-1) C dX1_putStory_14 (by decide) ?_
    exact j_iret C hr hlocks rfl dX1_putStory_15 (Nat.le_of_ble_eq_true rfl) (Nat.le_of_ble_eq_true rfl)
set_option maxHeartbeats 4000000 in
set_option maxRecDepth 100000 in
theorem con1_putAdvertisement (N : Nat) (b : Nat) (x1 : Int32) (x2 : Int32) (x3 : Int32) (x4 : Int32) (x5 : Int32) (x6 : Int32) (hb : isE b) : ConI yX1_putAdvertisement cX1_putAdvertisement 9 .int rm1_putAdvertisement (fun E => [.ref (ea E b), .int x1, .int x2, .int x3, .int x4, .int x5, .int x6]) (f1_putAdvertisement N b x1 x2 x3 x4 x5 x6) := by
  refine conI_of (L := fun E => [(0, .ref (ea E b)), (1, .int x1), (2, .int x2), (3, .int x3), (4, .int x4), (5, .int x5), (6, .int x6)]) (by decide) (fun _ => Nat.le_of_ble_eq_true rfl) (fun _ => rfl) ?_
  intro l E σ p e s m args below meth c C hr hlocks
  unfold f1_putAdvertisement
  refine j_aload_n 0 C dX1_putAdvertisement_0 rfl rfl ?_
  refine j_get 5 C fl1_29 (E_lt hb) (ct_E E hb _) rfl dX1_putAdvertisement_1 ?_
  refine j_istore [(7, .int (σ b 5)), (0, .ref (ea E b)), (1, .int x1), (2, .int x2), (3, .int x3), (4, .int x4), (5, .int x5), (6, .int x6)] C dX1_putAdvertisement_4 (by decide) rfl ?_
  refine j_iload 0 C dX1_putAdvertisement_6 rfl ?_
  refine j_callNI [.int (σ b 5)] (con5_isAdvertisementIndex N (σ b 5)) C mi5_isAdvertisementIndex ms5_isAdvertisementIndex lk1_36 rfl rfl ⟨Nat.le_of_ble_eq_true rfl, Nat.le_of_ble_eq_true rfl, Nat.le_of_ble_eq_true rfl, Nat.le_of_ble_eq_true rfl, Nat.le_of_ble_eq_true rfl⟩ dX1_putAdvertisement_8 (fun r8 σ8 => ?_)
  refine j_zne 16 C dX1_putAdvertisement_11 (by decide) ?_ ?_
  · refine j_aload_n 1 C dX1_putAdvertisement_16 rfl rfl ?_
    refine j_iload 0 C dX1_putAdvertisement_17 rfl ?_
    refine j_iconst (v := 1) 1 C dX1_putAdvertisement_19 (by decide) ?_
    refine j_iadd C dX1_putAdvertisement_20 ?_
    refine j_put 5 C fl1_29 rfl rfl rfl (E_lt hb) (ct_E E hb _) (Nat.le_of_ble_eq_true rfl) (ct_E E hb _) dX1_putAdvertisement_21 ?_
    refine j_aload_n 1 C dX1_putAdvertisement_24 rfl rfl ?_
    refine j_get 2 C fl1_19 (E_lt hb) (ct_E E hb _) rfl dX1_putAdvertisement_25 ?_
    refine j_iload 0 C dX1_putAdvertisement_28 rfl ?_
    refine j_iconst (v := 1) 1 C dX1_putAdvertisement_30 (by decide) ?_
    refine j_zast C (E_lt3 hb) (ct_E3 E hb) dX1_putAdvertisement_31 ?_
    refine j_iload 0 C dX1_putAdvertisement_32 rfl ?_
    refine j_bipush (v := 6) 6 C dX1_putAdvertisement_34 (by decide) ?_
    refine j_imul C dX1_putAdvertisement_36 ?_
    refine j_istore [(8, .int ((σ b 5) * 6)), (7, .int (σ b 5)), (0, .ref (ea E b)), (1, .int x1), (2, .int x2), (3, .int x3), (4, .int x4), (5, .int x5), (6, .int x6)] C dX1_putAdvertisement_37 (by decide) rfl ?_
    refine j_aload_n 2 C dX1_putAdvertisement_39 rfl rfl ?_
    refine j_get 3 C fl1_22 (E_lt hb) (ct_E E hb _) rfl dX1_putAdvertisement_40 ?_
    refine j_iload 0 C dX1_putAdvertisement_43 rfl ?_
    refine j_iconst (v := 0) 0 C dX1_putAdvertisement_45 (by decide) ?_
    refine j_iadd C dX1_putAdvertisement_46 ?_
    refine j_iload_n 3 C dX1_putAdvertisement_47 rfl rfl ?_
    refine j_iast C (E_lt4 hb) (ct_E4 E hb) dX1_putAdvertisement_48 ?_
    refine j_aload_n 2 C dX1_putAdvertisement_49 rfl rfl ?_
    refine j_get 3 C fl1_22 (E_lt hb) (ct_E E hb _) rfl dX1_putAdvertisement_50 ?_
    refine j_iload 0 C dX1_putAdvertisement_53 rfl ?_
    refine j_iconst (v := 1) 1 C dX1_putAdvertisement_55 (by decide) ?_
    refine j_iadd C dX1_putAdvertisement_56 ?_
    refine j_iload_n 4 C dX1_putAdvertisement_57 rfl rfl ?_
    refine j_iast C (E_lt4 hb) (ct_E4 E hb) dX1_putAdvertisement_58 ?_
    refine j_aload_n 2 C dX1_putAdvertisement_59 rfl rfl ?_
    refine j_get 3 C fl1_22 (E_lt hb) (ct_E E hb _) rfl dX1_putAdvertisement_60 ?_
    refine j_iload 0 C dX1_putAdvertisement_63 rfl ?_
    refine j_iconst (v := 2) 2 C dX1_putAdvertisement_65 (by decide) ?_
    refine j_iadd C dX1_putAdvertisement_66 ?_
    refine j_iload_n 5 C dX1_putAdvertisement_67 rfl rfl ?_
    refine j_iast C (E_lt4 hb) (ct_E4 E hb) dX1_putAdvertisement_68 ?_
    refine j_aload_n 2 C dX1_putAdvertisement_69 rfl rfl ?_
    refine j_get 3 C fl1_22 (E_lt hb) (ct_E E hb _) rfl dX1_putAdvertisement_70 ?_
    refine j_iload 0 C dX1_putAdvertisement_73 rfl ?_
    refine j_iconst (v := 3) 3 C dX1_putAdvertisement_75 (by decide) ?_
    refine j_iadd C dX1_putAdvertisement_76 ?_
    refine j_iload 6 C dX1_putAdvertisement_77 rfl ?_
    refine j_iast C (E_lt4 hb) (ct_E4 E hb) dX1_putAdvertisement_79 ?_
    refine j_aload_n 2 C dX1_putAdvertisement_80 rfl rfl ?_
    refine j_get 3 C fl1_22 (E_lt hb) (ct_E E hb _) rfl dX1_putAdvertisement_81 ?_
    refine j_iload 0 C dX1_putAdvertisement_84 rfl ?_
    refine j_iconst (v := 4) 4 C dX1_putAdvertisement_86 (by decide) ?_
    refine j_iadd C dX1_putAdvertisement_87 ?_
    refine j_iload 7 C dX1_putAdvertisement_88 rfl ?_
    refine j_iast C (E_lt4 hb) (ct_E4 E hb) dX1_putAdvertisement_90 ?_
    refine j_aload_n 2 C dX1_putAdvertisement_91 rfl rfl ?_
    refine j_get 3 C fl1_22 (E_lt hb) (ct_E E hb _) rfl dX1_putAdvertisement_92 ?_
    refine j_iload 0 C dX1_putAdvertisement_95 rfl ?_
    refine j_iconst (v := 5) 5 C dX1_putAdvertisement_97 (by decide) ?_
    refine j_iadd C dX1_putAdvertisement_98 ?_
    refine j_iload 8 C dX1_putAdvertisement_99 rfl ?_
    refine j_iast C (E_lt4 hb) (ct_E4 E hb) dX1_putAdvertisement_101 ?_
    refine j_iload 1 C dX1_putAdvertisement_102 rfl ?_
    exact j_iret C hr hlocks rfl dX1_putAdvertisement_104 (Nat.le_of_ble_eq_true rfl) (Nat.le_of_ble_eq_true rfl)
  · refine j_iconst (v := (-1)) (-1) C dX1_putAdvertisement_14 (by decide) ?_
    exact j_iret C hr hlocks rfl dX1_putAdvertisement_15 (Nat.le_of_ble_eq_true rfl) (Nat.le_of_ble_eq_true rfl)
set_option maxHeartbeats 4000000 in
set_option maxRecDepth 100000 in
theorem con1_dropStory (N : Nat) (b : Nat) (x1 : Int32) (hb : isE b) : ConV yX1_dropStory cX1_dropStory 2 rm1_dropStory (fun E => [.ref (ea E b), .int x1]) (f1_dropStory N b x1) := by
  refine conV_of (L := fun E => [(0, .ref (ea E b)), (1, .int x1)]) (by decide) (fun _ => Nat.le_of_ble_eq_true rfl) (fun _ => rfl) ?_
  intro l E σ p e s m args below meth c C hr hlocks
  unfold f1_dropStory
  refine j_iload_n 1 C dX1_dropStory_0 rfl rfl ?_
  refine j_callNI [.int x1] (con5_isStoryIndex N x1) C mi5_isStoryIndex ms5_isStoryIndex lk1_32 rfl rfl ⟨Nat.le_of_ble_eq_true rfl, Nat.le_of_ble_eq_true rfl, Nat.le_of_ble_eq_true rfl, Nat.le_of_ble_eq_true rfl, Nat.le_of_ble_eq_true rfl⟩ dX1_dropStory_1 (fun r1 σ1 => ?_)
  refine j_zeq 14 C dX1_dropStory_4 (by decide) ?_ ?_
  · exact j_vret C hr hlocks dX1_dropStory_14 (Nat.le_of_ble_eq_true rfl) (Nat.le_of_ble_eq_true rfl)
  · refine j_aload_n 0 C dX1_dropStory_7 rfl rfl ?_
    refine j_get 0 C fl1_9 (E_lt hb) (ct_E E hb _) rfl dX1_dropStory_8 ?_
    refine j_iload_n 1 C dX1_dropStory_11 rfl rfl ?_
    refine j_iconst (v := 0) 0 C dX1_dropStory_12 (by decide) ?_
    refine j_zast C (E_lt1 hb) (ct_E1 E hb) dX1_dropStory_13 ?_
    exact j_vret C hr hlocks dX1_dropStory_14 (Nat.le_of_ble_eq_true rfl) (Nat.le_of_ble_eq_true rfl)
set_option maxHeartbeats 4000000 in
set_option maxRecDepth 100000 in
theorem con1_dropAdvertisement (N : Nat) (b : Nat) (x1 : Int32) (hb : isE b) : ConV yX1_dropAdvertisement cX1_dropAdvertisement 2 rm1_dropAdvertisement (fun E => [.ref (ea E b), .int x1]) (f1_dropAdvertisement N b x1) := by
  refine conV_of (L := fun E => [(0, .ref (ea E b)), (1, .int x1)]) (by decide) (fun _ => Nat.le_of_ble_eq_true rfl) (fun _ => rfl) ?_
  intro l E σ p e s m args below meth c C hr hlocks
  unfold f1_dropAdvertisement
  refine j_iload_n 1 C dX1_dropAdvertisement_0 rfl rfl ?_
  refine j_callNI [.int x1] (con5_isAdvertisementIndex N x1) C mi5_isAdvertisementIndex ms5_isAdvertisementIndex lk1_36 rfl rfl ⟨Nat.le_of_ble_eq_true rfl, Nat.le_of_ble_eq_true rfl, Nat.le_of_ble_eq_true rfl, Nat.le_of_ble_eq_true rfl, Nat.le_of_ble_eq_true rfl⟩ dX1_dropAdvertisement_1 (fun r1 σ1 => ?_)
  refine j_zeq 14 C dX1_dropAdvertisement_4 (by decide) ?_ ?_
  · exact j_vret C hr hlocks dX1_dropAdvertisement_14 (Nat.le_of_ble_eq_true rfl) (Nat.le_of_ble_eq_true rfl)
  · refine j_aload_n 0 C dX1_dropAdvertisement_7 rfl rfl ?_
    refine j_get 2 C fl1_19 (E_lt hb) (ct_E E hb _) rfl dX1_dropAdvertisement_8 ?_
    refine j_iload_n 1 C dX1_dropAdvertisement_11 rfl rfl ?_
    refine j_iconst (v := 0) 0 C dX1_dropAdvertisement_12 (by decide) ?_
    refine j_zast C (E_lt3 hb) (ct_E3 E hb) dX1_dropAdvertisement_13 ?_
    exact j_vret C hr hlocks dX1_dropAdvertisement_14 (Nat.le_of_ble_eq_true rfl) (Nat.le_of_ble_eq_true rfl)
set_option maxHeartbeats 4000000 in
set_option maxRecDepth 100000 in
theorem con2_editionAt (N : Nat) (x1 : Int32) : ConQ yX2_editionAt cX2_editionAt 2 (.object "NewspaperMakeup$Edition") rm2_editionAt (fun E => [.ref (ea E 74), .int x1]) (f2_editionAt N x1) := by
  refine conQ_of (L := fun E => [(0, .ref (ea E 74)), (1, .int x1)]) (by decide) (fun _ => Nat.le_of_ble_eq_true rfl) (fun _ => rfl) ?_
  intro l E σ p e s m args below meth c C hr hlocks
  unfold f2_editionAt
  refine j_iload_n 1 C dX2_editionAt_0 rfl rfl ?_
  refine j_zlt 19 C dX2_editionAt_1 (by decide) ?_ ?_
  · refine j_null C dX2_editionAt_19 ?_
    exact j_aretN C hr hlocks dX2_editionAt_20 (Nat.le_of_ble_eq_true rfl) (Nat.le_of_ble_eq_true rfl)
  · refine j_iload_n 1 C dX2_editionAt_4 rfl rfl ?_
    refine j_bipush (v := 8) 8 C dX2_editionAt_5 (by decide) ?_
    refine j_ige 19 C dX2_editionAt_7 (by decide) ?_ ?_
    · refine j_null C dX2_editionAt_19 ?_
      exact j_aretN C hr hlocks dX2_editionAt_20 (Nat.le_of_ble_eq_true rfl) (Nat.le_of_ble_eq_true rfl)
    · refine j_aload_n 0 C dX2_editionAt_10 rfl rfl ?_
      refine j_get 0 C fl2_11 (by decide) (ct_74 E _) rfl dX2_editionAt_11 ?_
      refine j_iload_n 1 C dX2_editionAt_14 rfl rfl ?_
      refine j_eald C dX2_editionAt_15 ?_
      refine j_goto 20 C dX2_editionAt_16 (by decide) ?_
      exact j_aret C hr hlocks dX2_editionAt_20 (Nat.le_of_ble_eq_true rfl) (Nat.le_of_ble_eq_true rfl)
set_option maxHeartbeats 4000000 in
set_option maxRecDepth 100000 in
theorem con2_remember (N : Nat) (o : Nat) (ho : isE o) : ConV yX2_remember cX2_remember 3 rm2_remember (fun E => [.ref (ea E 74), .ref (ea E o)]) (f2_remember N o) := by
  refine conV_of (L := fun E => [(0, .ref (ea E 74)), (1, .ref (ea E o))]) (by decide) (fun _ => Nat.le_of_ble_eq_true rfl) (fun _ => rfl) ?_
  intro l E σ p e s m args below meth c C hr hlocks
  have wJ18 : ∀ (σ : Hp), J E 3 p l e rm2_remember s m args below meth c (QV E below args s rm2_remember.cells rm2_remember.slots) (f2_remember_J18 N o σ) 18 [(0, .ref (ea E 74))] [] σ 0 0 := by
    intro σ
    unfold f2_remember_J18
    refine j_aload_n 0 C dX2_remember_18 rfl rfl ?_
    refine j_aload_n 0 C dX2_remember_19 rfl rfl ?_
    refine j_get 1 C fl2_18 (by decide) (ct_74 E _) rfl dX2_remember_20 ?_
    refine j_iconst (v := 1) 1 C dX2_remember_23 (by decide) ?_
    refine j_iadd C dX2_remember_24 ?_
    refine j_bipush (v := 8) 8 C dX2_remember_25 (by decide) ?_
    refine j_irem C dX2_remember_27 ?_
    refine j_put 1 C fl2_18 rfl rfl rfl (by decide) (ct_74 E _) (Nat.le_of_ble_eq_true rfl) (ct_74 E _) dX2_remember_28 ?_
    refine j_aload_n 0 C dX2_remember_31 rfl rfl ?_
    refine j_aload_n 0 C dX2_remember_32 rfl rfl ?_
    refine j_get 2 C fl2_30 (by decide) (ct_74 E _) rfl dX2_remember_33 ?_
    refine j_iconst (v := 1) 1 C dX2_remember_36 (by decide) ?_
    refine j_iadd C dX2_remember_37 ?_
    refine j_bipush (v := 8) 8 C dX2_remember_38 (by decide) ?_
    refine j_min C lm2_33 ⟨Nat.le_of_ble_eq_true rfl, Nat.le_of_ble_eq_true rfl, Nat.le_of_ble_eq_true rfl, Nat.le_of_ble_eq_true rfl⟩ dX2_remember_40 ?_
    refine j_put 2 C fl2_30 rfl rfl rfl (by decide) (ct_74 E _) (Nat.le_of_ble_eq_true rfl) (ct_74 E _) dX2_remember_43 ?_
    exact j_vret C hr hlocks dX2_remember_46 (Nat.le_of_ble_eq_true rfl) (Nat.le_of_ble_eq_true rfl)
  unfold f2_remember
  refine j_aload_n 0 C dX2_remember_0 rfl rfl ?_
  refine j_aload_n 0 C dX2_remember_1 rfl rfl ?_
  refine j_get 1 C fl2_18 (by decide) (ct_74 E _) rfl dX2_remember_2 ?_
  refine j_callVQ [.int (σ 74 1)] (con2_editionAt N (σ 74 1)) C mi2_editionAt mv2_editionAt lk2_22 (by decide) (ct_74 E _) rfl rfl rfl ⟨Nat.le_of_ble_eq_true rfl, Nat.le_of_ble_eq_true rfl, Nat.le_of_ble_eq_true rfl, Nat.le_of_ble_eq_true rfl, Nat.le_of_ble_eq_true rfl⟩ dX2_remember_5 (fun σ5 => ?_) (fun b5 σ5 => ?_)
  · refine j_astore_nN [(2, .null), (0, .ref (ea E 74)), (1, .ref (ea E o))] C dX2_remember_8 rfl (by decide) rfl ?_
    refine j_aload_nN 0 C dX2_remember_9 rfl rfl ?_
    refine j_ifnullN 18 C dX2_remember_10 (by decide) ?_
    exact j_sub [1] rfl (wJ18 σ5)
  · refine j_gd (fun hb50 => ?_)
    have hb5 := isE_of hb50
    refine j_astore_n [(2, .ref (ea E b5)), (0, .ref (ea E 74)), (1, .ref (ea E o))] C dX2_remember_8 rfl (by decide) rfl ?_
    refine j_aload_n 0 C dX2_remember_9 rfl rfl ?_
    refine j_ifnull C dX2_remember_10 ?_
    refine j_aload_n 0 C dX2_remember_13 rfl rfl ?_
    refine j_aload_n 2 C dX2_remember_14 rfl rfl ?_
    refine j_callVV [.ref (ea E o)] (con1_copyFrom N b5 o hb5 ho) C mi1_copyFrom mv1_copyFrom lk2_26 (E_lt hb5) (ct_E E hb5 _) rfl rfl rfl ⟨Nat.le_of_ble_eq_true rfl, Nat.le_of_ble_eq_true rfl, Nat.le_of_ble_eq_true rfl, Nat.le_of_ble_eq_true rfl, Nat.le_of_ble_eq_true rfl⟩ dX2_remember_15 (fun σ15 => ?_)
    exact j_sub [1] rfl (wJ18 σ15)
set_option maxHeartbeats 4000000 in
set_option maxRecDepth 100000 in
theorem con2_isEmpty (N : Nat) : ConI yX2_isEmpty cX2_isEmpty 1 .boolean rm2_isEmpty (fun E => [.ref (ea E 74)]) (f2_isEmpty N) := by
  refine conI_of (L := fun E => [(0, .ref (ea E 74))]) (by decide) (fun _ => Nat.le_of_ble_eq_true rfl) (fun _ => rfl) ?_
  intro l E σ p e s m args below meth c C hr hlocks
  unfold f2_isEmpty
  refine j_aload_n 0 C dX2_isEmpty_0 rfl rfl ?_
  refine j_get 2 C fl2_30 (by decide) (ct_74 E _) rfl dX2_isEmpty_1 ?_
  refine j_zne 11 C dX2_isEmpty_4 (by decide) ?_ ?_
  · refine j_iconst (v := 0) 0 C dX2_isEmpty_11 (by decide) ?_
    exact j_iret C hr hlocks rfl dX2_isEmpty_12 (Nat.le_of_ble_eq_true rfl) (Nat.le_of_ble_eq_true rfl)
  · refine j_iconst (v := 1) 1 C dX2_isEmpty_7 (by decide) ?_
    refine j_goto 12 C dX2_isEmpty_8 (by decide) ?_
    exact j_iret C hr hlocks rfl dX2_isEmpty_12 (Nat.le_of_ble_eq_true rfl) (Nat.le_of_ble_eq_true rfl)
set_option maxHeartbeats 4000000 in
set_option maxRecDepth 100000 in
theorem con2_takeBack (N : Nat) (o : Nat) (ho : isE o) : ConI yX2_takeBack cX2_takeBack 3 .int rm2_takeBack (fun E => [.ref (ea E 74), .ref (ea E o)]) (f2_takeBack N o) := by
  refine conI_of (L := fun E => [(0, .ref (ea E 74)), (1, .ref (ea E o))]) (by decide) (fun _ => Nat.le_of_ble_eq_true rfl) (fun _ => rfl) ?_
  intro l E σ p e s m args below meth c C hr hlocks
  unfold f2_takeBack
  refine j_aload_n 0 C dX2_takeBack_0 rfl rfl ?_
  refine j_aload_n 0 C dX2_takeBack_1 rfl rfl ?_
  refine j_get 1 C fl2_18 (by decide) (ct_74 E _) rfl dX2_takeBack_2 ?_
  refine j_bipush (v := 8) 8 C dX2_takeBack_5 (by decide) ?_
  refine j_iadd C dX2_takeBack_7 ?_
  refine j_iconst (v := 1) 1 C dX2_takeBack_8 (by decide) ?_
  refine j_isub C dX2_takeBack_9 ?_
  refine j_bipush (v := 8) 8 C dX2_takeBack_10 (by decide) ?_
  refine j_irem C dX2_takeBack_12 ?_
  refine j_put 1 C fl2_18 rfl rfl rfl (by decide) (ct_74 E _) (Nat.le_of_ble_eq_true rfl) (ct_74 E _) dX2_takeBack_13 ?_
  refine j_aload_n 0 C dX2_takeBack_16 rfl rfl ?_
  refine j_dup C dX2_takeBack_17 rfl ?_
  refine j_get 2 C fl2_30 (by decide) (ct_74 E _) rfl dX2_takeBack_18 ?_
  refine j_iconst (v := 1) 1 C dX2_takeBack_21 (by decide) ?_
  refine j_isub C dX2_takeBack_22 ?_
  refine j_put 2 C fl2_30 rfl rfl rfl (by decide) (ct_74 E _) (Nat.le_of_ble_eq_true rfl) (ct_74 E _) dX2_takeBack_23 ?_
  refine j_aload_n 0 C dX2_takeBack_26 rfl rfl ?_
  refine j_aload_n 0 C dX2_takeBack_27 rfl rfl ?_
  refine j_get 1 C fl2_18 (by decide) (ct_74 E _) rfl dX2_takeBack_28 ?_
  refine j_callVQ [.int ((st (st σ 74 1 ((((σ 74 1) + 8) - 1) - (((σ 74 1) + 8) - 1) / (8 : Int32) * (8 : Int32))) 74 2 (((st σ 74 1 ((((σ 74 1) + 8) - 1) - (((σ 74 1) + 8) - 1) / (8 : Int32) * (8 : Int32))) 74 2) - 1)) 74 1)] (con2_editionAt N ((st (st σ 74 1 ((((σ 74 1) + 8) - 1) - (((σ 74 1) + 8) - 1) / (8 : Int32) * (8 : Int32))) 74 2 (((st σ 74 1 ((((σ 74 1) + 8) - 1) - (((σ 74 1) + 8) - 1) / (8 : Int32) * (8 : Int32))) 74 2) - 1)) 74 1)) C mi2_editionAt mv2_editionAt lk2_22 (by decide) (ct_74 E _) rfl rfl rfl ⟨Nat.le_of_ble_eq_true rfl, Nat.le_of_ble_eq_true rfl, Nat.le_of_ble_eq_true rfl, Nat.le_of_ble_eq_true rfl, Nat.le_of_ble_eq_true rfl⟩ dX2_takeBack_31 (fun σ31 => ?_) (fun b31 σ31 => ?_)
  · refine j_astore_nN [(2, .null), (0, .ref (ea E 74)), (1, .ref (ea E o))] C dX2_takeBack_34 rfl (by decide) rfl ?_
    refine j_aload_nN 0 C dX2_takeBack_35 rfl rfl ?_
    refine j_ifnullN 44 C dX2_takeBack_36 (by decide) ?_
    refine j_aload_n 1 C dX2_takeBack_44 rfl rfl ?_
    refine j_get 2 C fl2_30 (by decide) (ct_74 E _) rfl dX2_takeBack_45 ?_
    exact j_iret C hr hlocks rfl dX2_takeBack_48 (Nat.le_of_ble_eq_true rfl) (Nat.le_of_ble_eq_true rfl)
  · refine j_gd (fun hb310 => ?_)
    have hb31 := isE_of hb310
    refine j_astore_n [(2, .ref (ea E b31)), (0, .ref (ea E 74)), (1, .ref (ea E o))] C dX2_takeBack_34 rfl (by decide) rfl ?_
    refine j_aload_n 0 C dX2_takeBack_35 rfl rfl ?_
    refine j_ifnull C dX2_takeBack_36 ?_
    refine j_aload_n 2 C dX2_takeBack_39 rfl rfl ?_
    refine j_aload_n 0 C dX2_takeBack_40 rfl rfl ?_
    refine j_callVV [.ref (ea E b31)] (con1_copyFrom N o b31 ho hb31) C mi1_copyFrom mv1_copyFrom lk2_26 (E_lt ho) (ct_E E ho _) rfl rfl rfl ⟨Nat.le_of_ble_eq_true rfl, Nat.le_of_ble_eq_true rfl, Nat.le_of_ble_eq_true rfl, Nat.le_of_ble_eq_true rfl, Nat.le_of_ble_eq_true rfl⟩ dX2_takeBack_41 (fun σ41 => ?_)
    refine j_aload_n 1 C dX2_takeBack_44 rfl rfl ?_
    refine j_get 2 C fl2_30 (by decide) (ct_74 E _) rfl dX2_takeBack_45 ?_
    exact j_iret C hr hlocks rfl dX2_takeBack_48 (Nat.le_of_ble_eq_true rfl) (Nat.le_of_ble_eq_true rfl)
set_option maxHeartbeats 4000000 in
set_option maxRecDepth 100000 in
theorem con2_forget (N : Nat) : ConV yX2_forget cX2_forget 1 rm2_forget (fun E => [.ref (ea E 74)]) (f2_forget N) := by
  refine conV_of (L := fun E => [(0, .ref (ea E 74))]) (by decide) (fun _ => Nat.le_of_ble_eq_true rfl) (fun _ => rfl) ?_
  intro l E σ p e s m args below meth c C hr hlocks
  unfold f2_forget
  refine j_aload_n 0 C dX2_forget_0 rfl rfl ?_
  refine j_iconst (v := 0) 0 C dX2_forget_1 (by decide) ?_
  refine j_put 2 C fl2_30 rfl rfl rfl (by decide) (ct_74 E _) (Nat.le_of_ble_eq_true rfl) (ct_74 E _) dX2_forget_2 ?_
  exact j_vret C hr hlocks dX2_forget_5 (Nat.le_of_ble_eq_true rfl) (Nat.le_of_ble_eq_true rfl)
set_option maxHeartbeats 4000000 in
set_option maxRecDepth 100000 in
theorem con5_cellIndex (N : Nat) (x0 : Int32) (x1 : Int32) (x2 : Int32) : ConI yX5_cellIndex cX5_cellIndex 3 .int rm5_cellIndex (fun E => [.int x0, .int x1, .int x2]) (f5_cellIndex N x0 x1 x2) := by
  refine conI_of (L := fun E => [(0, .int x0), (1, .int x1), (2, .int x2)]) (by decide) (fun _ => Nat.le_of_ble_eq_true rfl) (fun _ => rfl) ?_
  intro l E σ p e s m args below meth c C hr hlocks
  unfold f5_cellIndex
  refine j_iload_n 0 C dX5_cellIndex_0 rfl rfl ?_
  refine j_bipush (v := 120) 120 C dX5_cellIndex_1 (by decide) ?_
  refine j_imul C dX5_cellIndex_3 ?_
  refine j_iload_n 2 C dX5_cellIndex_4 rfl rfl ?_
  refine j_iconst (v := 5) 5 C dX5_cellIndex_5 (by decide) ?_
  refine j_imul C dX5_cellIndex_6 ?_
  refine j_iadd C dX5_cellIndex_7 ?_
  refine j_iload_n 1 C dX5_cellIndex_8 rfl rfl ?_
  refine j_iadd C dX5_cellIndex_9 ?_
  exact j_iret C hr hlocks rfl dX5_cellIndex_10 (Nat.le_of_ble_eq_true rfl) (Nat.le_of_ble_eq_true rfl)
set_option maxHeartbeats 4000000 in
set_option maxRecDepth 100000 in
theorem con5_isCellIndex (N : Nat) (x0 : Int32) : ConI yX5_isCellIndex cX5_isCellIndex 1 .boolean rm5_isCellIndex (fun E => [.int x0]) (f5_isCellIndex N x0) := by
  refine conI_of (L := fun E => [(0, .int x0)]) (by decide) (fun _ => Nat.le_of_ble_eq_true rfl) (fun _ => rfl) ?_
  intro l E σ p e s m args below meth c C hr hlocks
  unfold f5_isCellIndex
  refine j_iload_n 0 C dX5_isCellIndex_0 rfl rfl ?_
  refine j_zlt 15 C dX5_isCellIndex_1 (by decide) ?_ ?_
  · refine j_iconst (v := 0) 0 C dX5_isCellIndex_15 (by decide) ?_
    exact j_iret C hr hlocks rfl dX5_isCellIndex_16 (Nat.le_of_ble_eq_true rfl) (Nat.le_of_ble_eq_true rfl)
  · refine j_iload_n 0 C dX5_isCellIndex_4 rfl rfl ?_
    refine j_sipush (v := 480) 480 C dX5_isCellIndex_5 (by decide) ?_
    refine j_ige 15 C dX5_isCellIndex_8 (by decide) ?_ ?_
    · refine j_iconst (v := 0) 0 C dX5_isCellIndex_15 (by decide) ?_
      exact j_iret C hr hlocks rfl dX5_isCellIndex_16 (Nat.le_of_ble_eq_true rfl) (Nat.le_of_ble_eq_true rfl)
    · refine j_iconst (v := 1) 1 C dX5_isCellIndex_11 (by decide) ?_
      refine j_goto 16 C dX5_isCellIndex_12 (by decide) ?_
      exact j_iret C hr hlocks rfl dX5_isCellIndex_16 (Nat.le_of_ble_eq_true rfl) (Nat.le_of_ble_eq_true rfl)
set_option maxHeartbeats 4000000 in
set_option maxRecDepth 100000 in
theorem con5_rowOf (N : Nat) (x0 : Int32) : ConI yX5_rowOf cX5_rowOf 1 .int rm5_rowOf (fun E => [.int x0]) (f5_rowOf N x0) := by
  refine conI_of (L := fun E => [(0, .int x0)]) (by decide) (fun _ => Nat.le_of_ble_eq_true rfl) (fun _ => rfl) ?_
  intro l E σ p e s m args below meth c C hr hlocks
  unfold f5_rowOf
  refine j_iload_n 0 C dX5_rowOf_0 rfl rfl ?_
  refine j_bipush (v := 120) 120 C dX5_rowOf_1 (by decide) ?_
  refine j_irem C dX5_rowOf_3 ?_
  refine j_iconst (v := 5) 5 C dX5_rowOf_4 (by decide) ?_
  refine j_idiv C dX5_rowOf_5 ?_
  exact j_iret C hr hlocks rfl dX5_rowOf_6 (Nat.le_of_ble_eq_true rfl) (Nat.le_of_ble_eq_true rfl)
set_option maxHeartbeats 4000000 in
set_option maxRecDepth 100000 in
theorem con5_pageOf (N : Nat) (x0 : Int32) : ConI yX5_pageOf cX5_pageOf 1 .int rm5_pageOf (fun E => [.int x0]) (f5_pageOf N x0) := by
  refine conI_of (L := fun E => [(0, .int x0)]) (by decide) (fun _ => Nat.le_of_ble_eq_true rfl) (fun _ => rfl) ?_
  intro l E σ p e s m args below meth c C hr hlocks
  unfold f5_pageOf
  refine j_iload_n 0 C dX5_pageOf_0 rfl rfl ?_
  refine j_bipush (v := 120) 120 C dX5_pageOf_1 (by decide) ?_
  refine j_idiv C dX5_pageOf_3 ?_
  exact j_iret C hr hlocks rfl dX5_pageOf_4 (Nat.le_of_ble_eq_true rfl) (Nat.le_of_ble_eq_true rfl)
set_option maxHeartbeats 4000000 in
set_option maxRecDepth 100000 in
theorem con5_columnOf (N : Nat) (x0 : Int32) : ConI yX5_columnOf cX5_columnOf 1 .int rm5_columnOf (fun E => [.int x0]) (f5_columnOf N x0) := by
  refine conI_of (L := fun E => [(0, .int x0)]) (by decide) (fun _ => Nat.le_of_ble_eq_true rfl) (fun _ => rfl) ?_
  intro l E σ p e s m args below meth c C hr hlocks
  unfold f5_columnOf
  refine j_iload_n 0 C dX5_columnOf_0 rfl rfl ?_
  refine j_iconst (v := 5) 5 C dX5_columnOf_1 (by decide) ?_
  refine j_irem C dX5_columnOf_2 ?_
  exact j_iret C hr hlocks rfl dX5_columnOf_3 (Nat.le_of_ble_eq_true rfl) (Nat.le_of_ble_eq_true rfl)
set_option maxHeartbeats 4000000 in
set_option maxRecDepth 100000 in
theorem con4_takes (N : Nat) (x1 : Int32) (x2 : Int32) : ConI yX4_takes cX4_takes 3 .boolean rm4_takes (fun E => [.ref (ea E 76), .int x1, .int x2]) (f4_takes N x1 x2) := by
  refine conI_of (L := fun E => [(0, .ref (ea E 76)), (1, .int x1), (2, .int x2)]) (by decide) (fun _ => Nat.le_of_ble_eq_true rfl) (fun _ => rfl) ?_
  intro l E σ p e s m args below meth c C hr hlocks
  have wJ10 : ∀ (y0 : Int32) (y1 : Int32) (σ : Hp), J E 3 p l e rm4_takes s m args below meth c (QI E below args s rm4_takes.cells rm4_takes.slots) (f4_takes_J10 N x1 x2 y0 y1 σ) 10 [] [.int y0, .int y1] σ 0 0 := by
    intro y0 y1 σ
    unfold f4_takes_J10
    refine j_ieq 17 C dX4_takes_10 (by decide) ?_ ?_
    · refine j_iconst (v := 0) 0 C dX4_takes_17 (by decide) ?_
      exact j_iret C hr hlocks rfl dX4_takes_18 (Nat.le_of_ble_eq_true rfl) (Nat.le_of_ble_eq_true rfl)
    · refine j_iconst (v := 1) 1 C dX4_takes_13 (by decide) ?_
      refine j_goto 18 C dX4_takes_14 (by decide) ?_
      exact j_iret C hr hlocks rfl dX4_takes_18 (Nat.le_of_ble_eq_true rfl) (Nat.le_of_ble_eq_true rfl)
  unfold f4_takes
  refine j_iload_n 1 C dX4_takes_0 rfl rfl ?_
  refine j_iload_n 2 C dX4_takes_1 rfl rfl ?_
  refine j_zeq 9 C dX4_takes_2 (by decide) ?_ ?_
  · refine j_iconst (v := 0) 0 C dX4_takes_9 (by decide) ?_
    exact j_sub [] rfl (wJ10 0 x1 σ)
  · refine j_iconst (v := 1) 1 C dX4_takes_5 (by decide) ?_
    refine j_goto 10 C dX4_takes_6 (by decide) ?_
    exact j_sub [] rfl (wJ10 1 x1 σ)
set_option maxHeartbeats 4000000 in
set_option maxRecDepth 100000 in
theorem con4_isSpot (N : Nat) (x0 : Int32) : ConI yX4_isSpot cX4_isSpot 1 .boolean rm4_isSpot (fun E => [.int x0]) (f4_isSpot N x0) := by
  refine conI_of (L := fun E => [(0, .int x0)]) (by decide) (fun _ => Nat.le_of_ble_eq_true rfl) (fun _ => rfl) ?_
  intro l E σ p e s m args below meth c C hr hlocks
  unfold f4_isSpot
  refine j_iload_n 0 C dX4_isSpot_0 rfl rfl ?_
  refine j_zlt 14 C dX4_isSpot_1 (by decide) ?_ ?_
  · refine j_iconst (v := 0) 0 C dX4_isSpot_14 (by decide) ?_
    exact j_iret C hr hlocks rfl dX4_isSpot_15 (Nat.le_of_ble_eq_true rfl) (Nat.le_of_ble_eq_true rfl)
  · refine j_iload_n 0 C dX4_isSpot_4 rfl rfl ?_
    refine j_bipush (v := 12) 12 C dX4_isSpot_5 (by decide) ?_
    refine j_ige 14 C dX4_isSpot_7 (by decide) ?_ ?_
    · refine j_iconst (v := 0) 0 C dX4_isSpot_14 (by decide) ?_
      exact j_iret C hr hlocks rfl dX4_isSpot_15 (Nat.le_of_ble_eq_true rfl) (Nat.le_of_ble_eq_true rfl)
    · refine j_iconst (v := 1) 1 C dX4_isSpot_10 (by decide) ?_
      refine j_goto 15 C dX4_isSpot_11 (by decide) ?_
      exact j_iret C hr hlocks rfl dX4_isSpot_15 (Nat.le_of_ble_eq_true rfl) (Nat.le_of_ble_eq_true rfl)
set_option maxHeartbeats 4000000 in
set_option maxRecDepth 100000 in
theorem con4_heldAt (N : Nat) (x1 : Int32) : ConI yX4_heldAt cX4_heldAt 2 .int rm4_heldAt (fun E => [.ref (ea E 76), .int x1]) (f4_heldAt N x1) := by
  refine conI_of (L := fun E => [(0, .ref (ea E 76)), (1, .int x1)]) (by decide) (fun _ => Nat.le_of_ble_eq_true rfl) (fun _ => rfl) ?_
  intro l E σ p e s m args below meth c C hr hlocks
  unfold f4_heldAt
  refine j_iload_n 1 C dX4_heldAt_0 rfl rfl ?_
  refine j_callSI [.int x1] (con4_isSpot N x1) C mi4_isSpot ms4_isSpot lk4_22 rfl rfl ⟨Nat.le_of_ble_eq_true rfl, Nat.le_of_ble_eq_true rfl, Nat.le_of_ble_eq_true rfl, Nat.le_of_ble_eq_true rfl, Nat.le_of_ble_eq_true rfl⟩ dX4_heldAt_1 (fun r1 σ1 => ?_)
  refine j_zeq 16 C dX4_heldAt_4 (by decide) ?_ ?_
  · refine j_iconst (v := 0) 0 C dX4_heldAt_16 (by decide) ?_
    exact j_iret C hr hlocks rfl dX4_heldAt_17 (Nat.le_of_ble_eq_true rfl) (Nat.le_of_ble_eq_true rfl)
  · refine j_aload_n 0 C dX4_heldAt_7 rfl rfl ?_
    refine j_get 0 C fl4_9 (by decide) (ct_76 E _) rfl dX4_heldAt_8 ?_
    refine j_iload_n 1 C dX4_heldAt_11 rfl rfl ?_
    refine j_iald C (by decide) (ct_77 E _) dX4_heldAt_12 ?_
    refine j_goto 17 C dX4_heldAt_13 (by decide) ?_
    exact j_iret C hr hlocks rfl dX4_heldAt_17 (Nat.le_of_ble_eq_true rfl) (Nat.le_of_ble_eq_true rfl)
set_option maxHeartbeats 4000000 in
set_option maxRecDepth 100000 in
theorem con4_isEmptyAt (N : Nat) (x1 : Int32) : ConI yX4_isEmptyAt cX4_isEmptyAt 2 .boolean rm4_isEmptyAt (fun E => [.ref (ea E 76), .int x1]) (f4_isEmptyAt N x1) := by
  refine conI_of (L := fun E => [(0, .ref (ea E 76)), (1, .int x1)]) (by decide) (fun _ => Nat.le_of_ble_eq_true rfl) (fun _ => rfl) ?_
  intro l E σ p e s m args below meth c C hr hlocks
  unfold f4_isEmptyAt
  refine j_aload_n 0 C dX4_isEmptyAt_0 rfl rfl ?_
  refine j_iload_n 1 C dX4_isEmptyAt_1 rfl rfl ?_
  refine j_callVI [.int x1] (con4_heldAt N x1) C mi4_heldAt mv4_heldAt lk4_18 (by decide) (ct_76 E _) rfl rfl rfl ⟨Nat.le_of_ble_eq_true rfl, Nat.le_of_ble_eq_true rfl, Nat.le_of_ble_eq_true rfl, Nat.le_of_ble_eq_true rfl, Nat.le_of_ble_eq_true rfl⟩ dX4_isEmptyAt_2 (fun r2 σ2 => ?_)
  refine j_zne 12 C dX4_isEmptyAt_5 (by decide) ?_ ?_
  · refine j_iconst (v := 0) 0 C dX4_isEmptyAt_12 (by decide) ?_
    exact j_iret C hr hlocks rfl dX4_isEmptyAt_13 (Nat.le_of_ble_eq_true rfl) (Nat.le_of_ble_eq_true rfl)
  · refine j_iconst (v := 1) 1 C dX4_isEmptyAt_8 (by decide) ?_
    refine j_goto 13 C dX4_isEmptyAt_9 (by decide) ?_
    exact j_iret C hr hlocks rfl dX4_isEmptyAt_13 (Nat.le_of_ble_eq_true rfl) (Nat.le_of_ble_eq_true rfl)
set_option maxHeartbeats 4000000 in
set_option maxRecDepth 100000 in
theorem con4_isStoryAt (N : Nat) (x1 : Int32) : ConI yX4_isStoryAt cX4_isStoryAt 2 .boolean rm4_isStoryAt (fun E => [.ref (ea E 76), .int x1]) (f4_isStoryAt N x1) := by
  refine conI_of (L := fun E => [(0, .ref (ea E 76)), (1, .int x1)]) (by decide) (fun _ => Nat.le_of_ble_eq_true rfl) (fun _ => rfl) ?_
  intro l E σ p e s m args below meth c C hr hlocks
  unfold f4_isStoryAt
  refine j_aload_n 0 C dX4_isStoryAt_0 rfl rfl ?_
  refine j_iload_n 1 C dX4_isStoryAt_1 rfl rfl ?_
  refine j_callVI [.int x1] (con4_heldAt N x1) C mi4_heldAt mv4_heldAt lk4_18 (by decide) (ct_76 E _) rfl rfl rfl ⟨Nat.le_of_ble_eq_true rfl, Nat.le_of_ble_eq_true rfl, Nat.le_of_ble_eq_true rfl, Nat.le_of_ble_eq_true rfl, Nat.le_of_ble_eq_true rfl⟩ dX4_isStoryAt_2 (fun r2 σ2 => ?_)
  refine j_iconst (v := 1) 1 C dX4_isStoryAt_5 (by decide) ?_
  refine j_ine 13 C dX4_isStoryAt_6 (by decide) ?_ ?_
  · refine j_iconst (v := 0) 0 C dX4_isStoryAt_13 (by decide) ?_
    exact j_iret C hr hlocks rfl dX4_isStoryAt_14 (Nat.le_of_ble_eq_true rfl) (Nat.le_of_ble_eq_true rfl)
  · refine j_iconst (v := 1) 1 C dX4_isStoryAt_9 (by decide) ?_
    refine j_goto 14 C dX4_isStoryAt_10 (by decide) ?_
    exact j_iret C hr hlocks rfl dX4_isStoryAt_14 (Nat.le_of_ble_eq_true rfl) (Nat.le_of_ble_eq_true rfl)
set_option maxHeartbeats 4000000 in
set_option maxRecDepth 100000 in
theorem con4_filledPlaces (N : Nat) (x1 : Int32) : ConI yX4_filledPlaces cX4_filledPlaces 4 .int rm4_filledPlaces (fun E => [.ref (ea E 76), .int x1]) (f4_filledPlaces N x1) := by
  refine conI_of (L := fun E => [(0, .ref (ea E 76)), (1, .int x1)]) (by decide) (fun _ => Nat.le_of_ble_eq_true rfl) (fun _ => rfl) ?_
  intro l E σ p e s m args below meth c C hr hlocks
  have wL4 : ∀ (K4 : Int32 → Hp → Option (Int32 × Hp)), (∀ (x2 : Int32) (σ : Hp), J E 4 p l e rm4_filledPlaces s m args below meth c (QI E below args s rm4_filledPlaces.cells rm4_filledPlaces.slots) (K4 x2 σ) 30 [(2, .int x2)] [] σ 0 0) → ∀ (n4 : Nat) (x2 : Int32) (x3 : Int32) (σ : Hp), J E 4 p l e rm4_filledPlaces s m args below meth c (QI E below args s rm4_filledPlaces.cells rm4_filledPlaces.slots) (f4_filledPlaces_L4 N x1 K4 n4 x2 x3 σ) 4 [(0, .ref (ea E 76)), (1, .int x1), (2, .int x2), (3, .int x3)] [] σ 0 0 := by
    intro K4 HK4 n4
    induction n4 with
    | zero => intro x2 x3 σ; exact j_none
    | succ n4 ih4 =>
      have wJ24 : ∀ (x2 : Int32) (x3 : Int32) (σ : Hp), J E 4 p l e rm4_filledPlaces s m args below meth c (QI E below args s rm4_filledPlaces.cells rm4_filledPlaces.slots) (f4_filledPlaces_J24 N x1 K4 (f4_filledPlaces_L4 N x1 K4 n4) x2 x3 σ) 24 [(0, .ref (ea E 76)), (1, .int x1), (2, .int x2), (3, .int x3)] [] σ 0 0 := by
        intro x2 x3 σ
        unfold f4_filledPlaces_J24
        refine j_iinc 3 1 [(3, .int (x3 + 1)), (0, .ref (ea E 76)), (1, .int x1), (2, .int x2)] C dX4_filledPlaces_24 rfl rfl (by decide) rfl ?_
        refine j_goto 4 C dX4_filledPlaces_27 (by decide) ?_
        exact j_sub [1, 2, 3, 0] rfl (ih4 x2 (x3 + 1) σ)
      intro x2 x3 σ
      show J E 4 p l e rm4_filledPlaces s m args below meth c (QI E below args s rm4_filledPlaces.cells rm4_filledPlaces.slots) (f4_filledPlaces_B4 N x1 K4 (f4_filledPlaces_L4 N x1 K4 n4) x2 x3 σ) 4 [(0, .ref (ea E 76)), (1, .int x1), (2, .int x2), (3, .int x3)] [] σ 0 0
      unfold f4_filledPlaces_B4
      refine j_iload_n 3 C dX4_filledPlaces_4 rfl rfl ?_
      refine j_iconst (v := 4) 4 C dX4_filledPlaces_5 (by decide) ?_
      refine j_ige 30 C dX4_filledPlaces_6 (by decide) ?_ ?_
      · exact j_sub [2] rfl (HK4 x2 σ)
      · refine j_aload_n 0 C dX4_filledPlaces_9 rfl rfl ?_
        refine j_iload_n 1 C dX4_filledPlaces_10 rfl rfl ?_
        refine j_iconst (v := 4) 4 C dX4_filledPlaces_11 (by decide) ?_
        refine j_imul C dX4_filledPlaces_12 ?_
        refine j_iload_n 3 C dX4_filledPlaces_13 rfl rfl ?_
        refine j_iadd C dX4_filledPlaces_14 ?_
        refine j_callVI [.int ((x1 * 4) + x3)] (con4_isEmptyAt N ((x1 * 4) + x3)) C mi4_isEmptyAt mv4_isEmptyAt lk4_26 (by decide) (ct_76 E _) rfl rfl rfl ⟨Nat.le_of_ble_eq_true rfl, Nat.le_of_ble_eq_true rfl, Nat.le_of_ble_eq_true rfl, Nat.le_of_ble_eq_true rfl, Nat.le_of_ble_eq_true rfl⟩ dX4_filledPlaces_15 (fun r15 σ15 => ?_)
        refine j_zne 24 C dX4_filledPlaces_18 (by decide) ?_ ?_
        · exact j_sub [0, 1, 2, 3] rfl (wJ24 x2 x3 σ15)
        · refine j_iinc 2 1 [(2, .int (x2 + 1)), (0, .ref (ea E 76)), (1, .int x1), (3, .int x3)] C dX4_filledPlaces_21 rfl rfl (by decide) rfl ?_
          exact j_sub [1, 2, 0, 3] rfl (wJ24 (x2 + 1) x3 σ15)
  unfold f4_filledPlaces
  refine j_iconst (v := 0) 0 C dX4_filledPlaces_0 (by decide) ?_
  refine j_istore_n [(2, .int 0), (0, .ref (ea E 76)), (1, .int x1)] C dX4_filledPlaces_1 rfl (by decide) rfl ?_
  refine j_iconst (v := 0) 0 C dX4_filledPlaces_2 (by decide) ?_
  refine j_istore_n [(3, .int 0), (2, .int 0), (0, .ref (ea E 76)), (1, .int x1)] C dX4_filledPlaces_3 rfl (by decide) rfl ?_
  refine j_sub [2, 3, 1, 0] rfl (wL4 _ (fun x2_4 σL4 => ?_) N 0 0 σ)
  refine j_iload_n 0 C dX4_filledPlaces_30 rfl rfl ?_
  exact j_iret C hr hlocks rfl dX4_filledPlaces_31 (Nat.le_of_ble_eq_true rfl) (Nat.le_of_ble_eq_true rfl)
set_option maxHeartbeats 4000000 in
set_option maxRecDepth 100000 in
theorem con4_keepStory (N : Nat) (o : Nat) (x1 : Int32) (x3 : Int32) (ho : isE o) : ConV yX4_keepStory cX4_keepStory 5 rm4_keepStory (fun E => [.ref (ea E 76), .int x1, .ref (ea E o), .int x3]) (f4_keepStory N o x1 x3) := by
  refine conV_of (L := fun E => [(0, .ref (ea E 76)), (1, .int x1), (2, .ref (ea E o)), (3, .int x3)]) (by decide) (fun _ => Nat.le_of_ble_eq_true rfl) (fun _ => rfl) ?_
  intro l E σ p e s m args below meth c C hr hlocks
  have wL18 : ∀ (K18 : Hp → Option (Unit × Hp)), (∀ (σ : Hp), J E 5 p l e rm4_keepStory s m args below meth c (QV E below args s rm4_keepStory.cells rm4_keepStory.slots) (K18 σ) 50 [] [] σ 0 0) → ∀ (n18 : Nat) (x4 : Int32) (σ : Hp), J E 5 p l e rm4_keepStory s m args below meth c (QV E below args s rm4_keepStory.cells rm4_keepStory.slots) (f4_keepStory_L18 N o x1 x3 K18 n18 x4 σ) 18 [(0, .ref (ea E 76)), (1, .int x1), (2, .ref (ea E o)), (3, .int x3), (4, .int x4)] [] σ 0 0 := by
    intro K18 HK18 n18
    induction n18 with
    | zero => intro x4 σ; exact j_none
    | succ n18 ih18 =>
      intro x4 σ
      show J E 5 p l e rm4_keepStory s m args below meth c (QV E below args s rm4_keepStory.cells rm4_keepStory.slots) (f4_keepStory_B18 N o x1 x3 K18 (f4_keepStory_L18 N o x1 x3 K18 n18) x4 σ) 18 [(0, .ref (ea E 76)), (1, .int x1), (2, .ref (ea E o)), (3, .int x3), (4, .int x4)] [] σ 0 0
      unfold f4_keepStory_B18
      refine j_iload 4 C dX4_keepStory_18 rfl ?_
      refine j_bipush (v := 8) 8 C dX4_keepStory_20 (by decide) ?_
      refine j_ige 50 C dX4_keepStory_22 (by decide) ?_ ?_
      · exact j_sub [] rfl (HK18 σ)
      · refine j_aload_n 0 C dX4_keepStory_25 rfl rfl ?_
        refine j_get 1 C fl4_15 (by decide) (ct_76 E _) rfl dX4_keepStory_26 ?_
        refine j_iload_n 1 C dX4_keepStory_29 rfl rfl ?_
        refine j_bipush (v := 8) 8 C dX4_keepStory_30 (by decide) ?_
        refine j_imul C dX4_keepStory_32 ?_
        refine j_iload 4 C dX4_keepStory_33 rfl ?_
        refine j_iadd C dX4_keepStory_35 ?_
        refine j_aload_n 2 C dX4_keepStory_36 rfl rfl ?_
        refine j_iload_n 3 C dX4_keepStory_37 rfl rfl ?_
        refine j_iload 4 C dX4_keepStory_38 rfl ?_
        refine j_callVI [.int x3, .int x4] (con1_storyNumber N o x3 x4 ho) C mi1_storyNumber mv1_storyNumber lk4_29 (E_lt ho) (ct_E E ho _) rfl rfl rfl ⟨Nat.le_of_ble_eq_true rfl, Nat.le_of_ble_eq_true rfl, Nat.le_of_ble_eq_true rfl, Nat.le_of_ble_eq_true rfl, Nat.le_of_ble_eq_true rfl⟩ dX4_keepStory_40 (fun r40 σ40 => ?_)
        refine j_iast C (by decide) (ct_78 E) dX4_keepStory_43 ?_
        refine j_iinc 4 1 [(4, .int (x4 + 1)), (0, .ref (ea E 76)), (1, .int x1), (2, .ref (ea E o)), (3, .int x3)] C dX4_keepStory_44 rfl rfl (by decide) rfl ?_
        refine j_goto 18 C dX4_keepStory_47 (by decide) ?_
        exact j_sub [1, 2, 3, 4, 0] rfl (ih18 (x4 + 1) (st σ40 78 ((x1 * 8) + x4).toNatClampNeg r40))
  unfold f4_keepStory
  refine j_iload_n 1 C dX4_keepStory_0 rfl rfl ?_
  refine j_callSI [.int x1] (con4_isSpot N x1) C mi4_isSpot ms4_isSpot lk4_22 rfl rfl ⟨Nat.le_of_ble_eq_true rfl, Nat.le_of_ble_eq_true rfl, Nat.le_of_ble_eq_true rfl, Nat.le_of_ble_eq_true rfl, Nat.le_of_ble_eq_true rfl⟩ dX4_keepStory_1 (fun r1 σ1 => ?_)
  refine j_zne 8 C dX4_keepStory_4 (by decide) ?_ ?_
  · refine j_aload_n 0 C dX4_keepStory_8 rfl rfl ?_
    refine j_get 0 C fl4_9 (by decide) (ct_76 E _) rfl dX4_keepStory_9 ?_
    refine j_iload_n 1 C dX4_keepStory_12 rfl rfl ?_
    refine j_iconst (v := 1) 1 C dX4_keepStory_13 (by decide) ?_
    refine j_iast C (by decide) (ct_77 E) dX4_keepStory_14 ?_
    refine j_iconst (v := 0) 0 C dX4_keepStory_15 (by decide) ?_
    refine j_istore [(4, .int 0), (0, .ref (ea E 76)), (1, .int x1), (2, .ref (ea E o)), (3, .int x3)] C dX4_keepStory_16 (by decide) rfl ?_
    refine j_sub [1, 2, 3, 4, 0] rfl (wL18 _ (fun σL18 => ?_) N 0 (st σ1 77 x1.toNatClampNeg 1))
    exact j_vret C hr hlocks dX4_keepStory_50 (Nat.le_of_ble_eq_true rfl) (Nat.le_of_ble_eq_true rfl)
  · exact j_vret C hr hlocks dX4_keepStory_7 (Nat.le_of_ble_eq_true rfl) (Nat.le_of_ble_eq_true rfl)
set_option maxHeartbeats 4000000 in
set_option maxRecDepth 100000 in
theorem con4_keepAdvertisement (N : Nat) (o : Nat) (x1 : Int32) (x3 : Int32) (ho : isE o) : ConV yX4_keepAdvertisement cX4_keepAdvertisement 5 rm4_keepAdvertisement (fun E => [.ref (ea E 76), .int x1, .ref (ea E o), .int x3]) (f4_keepAdvertisement N o x1 x3) := by
  refine conV_of (L := fun E => [(0, .ref (ea E 76)), (1, .int x1), (2, .ref (ea E o)), (3, .int x3)]) (by decide) (fun _ => Nat.le_of_ble_eq_true rfl) (fun _ => rfl) ?_
  intro l E σ p e s m args below meth c C hr hlocks
  have wL18 : ∀ (K18 : Hp → Option (Unit × Hp)), (∀ (σ : Hp), J E 5 p l e rm4_keepAdvertisement s m args below meth c (QV E below args s rm4_keepAdvertisement.cells rm4_keepAdvertisement.slots) (K18 σ) 50 [] [] σ 0 0) → ∀ (n18 : Nat) (x4 : Int32) (σ : Hp), J E 5 p l e rm4_keepAdvertisement s m args below meth c (QV E below args s rm4_keepAdvertisement.cells rm4_keepAdvertisement.slots) (f4_keepAdvertisement_L18 N o x1 x3 K18 n18 x4 σ) 18 [(0, .ref (ea E 76)), (1, .int x1), (2, .ref (ea E o)), (3, .int x3), (4, .int x4)] [] σ 0 0 := by
    intro K18 HK18 n18
    induction n18 with
    | zero => intro x4 σ; exact j_none
    | succ n18 ih18 =>
      intro x4 σ
      show J E 5 p l e rm4_keepAdvertisement s m args below meth c (QV E below args s rm4_keepAdvertisement.cells rm4_keepAdvertisement.slots) (f4_keepAdvertisement_B18 N o x1 x3 K18 (f4_keepAdvertisement_L18 N o x1 x3 K18 n18) x4 σ) 18 [(0, .ref (ea E 76)), (1, .int x1), (2, .ref (ea E o)), (3, .int x3), (4, .int x4)] [] σ 0 0
      unfold f4_keepAdvertisement_B18
      refine j_iload 4 C dX4_keepAdvertisement_18 rfl ?_
      refine j_bipush (v := 6) 6 C dX4_keepAdvertisement_20 (by decide) ?_
      refine j_ige 50 C dX4_keepAdvertisement_22 (by decide) ?_ ?_
      · exact j_sub [] rfl (HK18 σ)
      · refine j_aload_n 0 C dX4_keepAdvertisement_25 rfl rfl ?_
        refine j_get 1 C fl4_15 (by decide) (ct_76 E _) rfl dX4_keepAdvertisement_26 ?_
        refine j_iload_n 1 C dX4_keepAdvertisement_29 rfl rfl ?_
        refine j_bipush (v := 8) 8 C dX4_keepAdvertisement_30 (by decide) ?_
        refine j_imul C dX4_keepAdvertisement_32 ?_
        refine j_iload 4 C dX4_keepAdvertisement_33 rfl ?_
        refine j_iadd C dX4_keepAdvertisement_35 ?_
        refine j_aload_n 2 C dX4_keepAdvertisement_36 rfl rfl ?_
        refine j_iload_n 3 C dX4_keepAdvertisement_37 rfl rfl ?_
        refine j_iload 4 C dX4_keepAdvertisement_38 rfl ?_
        refine j_callVI [.int x3, .int x4] (con1_advertisementNumber N o x3 x4 ho) C mi1_advertisementNumber mv1_advertisementNumber lk4_35 (E_lt ho) (ct_E E ho _) rfl rfl rfl ⟨Nat.le_of_ble_eq_true rfl, Nat.le_of_ble_eq_true rfl, Nat.le_of_ble_eq_true rfl, Nat.le_of_ble_eq_true rfl, Nat.le_of_ble_eq_true rfl⟩ dX4_keepAdvertisement_40 (fun r40 σ40 => ?_)
        refine j_iast C (by decide) (ct_78 E) dX4_keepAdvertisement_43 ?_
        refine j_iinc 4 1 [(4, .int (x4 + 1)), (0, .ref (ea E 76)), (1, .int x1), (2, .ref (ea E o)), (3, .int x3)] C dX4_keepAdvertisement_44 rfl rfl (by decide) rfl ?_
        refine j_goto 18 C dX4_keepAdvertisement_47 (by decide) ?_
        exact j_sub [1, 2, 3, 4, 0] rfl (ih18 (x4 + 1) (st σ40 78 ((x1 * 8) + x4).toNatClampNeg r40))
  unfold f4_keepAdvertisement
  refine j_iload_n 1 C dX4_keepAdvertisement_0 rfl rfl ?_
  refine j_callSI [.int x1] (con4_isSpot N x1) C mi4_isSpot ms4_isSpot lk4_22 rfl rfl ⟨Nat.le_of_ble_eq_true rfl, Nat.le_of_ble_eq_true rfl, Nat.le_of_ble_eq_true rfl, Nat.le_of_ble_eq_true rfl, Nat.le_of_ble_eq_true rfl⟩ dX4_keepAdvertisement_1 (fun r1 σ1 => ?_)
  refine j_zne 8 C dX4_keepAdvertisement_4 (by decide) ?_ ?_
  · refine j_aload_n 0 C dX4_keepAdvertisement_8 rfl rfl ?_
    refine j_get 0 C fl4_9 (by decide) (ct_76 E _) rfl dX4_keepAdvertisement_9 ?_
    refine j_iload_n 1 C dX4_keepAdvertisement_12 rfl rfl ?_
    refine j_iconst (v := 2) 2 C dX4_keepAdvertisement_13 (by decide) ?_
    refine j_iast C (by decide) (ct_77 E) dX4_keepAdvertisement_14 ?_
    refine j_iconst (v := 0) 0 C dX4_keepAdvertisement_15 (by decide) ?_
    refine j_istore [(4, .int 0), (0, .ref (ea E 76)), (1, .int x1), (2, .ref (ea E o)), (3, .int x3)] C dX4_keepAdvertisement_16 (by decide) rfl ?_
    refine j_sub [1, 2, 3, 4, 0] rfl (wL18 _ (fun σL18 => ?_) N 0 (st σ1 77 x1.toNatClampNeg 2))
    exact j_vret C hr hlocks dX4_keepAdvertisement_50 (Nat.le_of_ble_eq_true rfl) (Nat.le_of_ble_eq_true rfl)
  · exact j_vret C hr hlocks dX4_keepAdvertisement_7 (Nat.le_of_ble_eq_true rfl) (Nat.le_of_ble_eq_true rfl)
set_option maxHeartbeats 4000000 in
set_option maxRecDepth 100000 in
theorem con4_kept (N : Nat) (x1 : Int32) (x2 : Int32) : ConI yX4_kept cX4_kept 3 .int rm4_kept (fun E => [.ref (ea E 76), .int x1, .int x2]) (f4_kept N x1 x2) := by
  refine conI_of (L := fun E => [(0, .ref (ea E 76)), (1, .int x1), (2, .int x2)]) (by decide) (fun _ => Nat.le_of_ble_eq_true rfl) (fun _ => rfl) ?_
  intro l E σ p e s m args below meth c C hr hlocks
  unfold f4_kept
  refine j_iload_n 1 C dX4_kept_0 rfl rfl ?_
  refine j_callSI [.int x1] (con4_isSpot N x1) C mi4_isSpot ms4_isSpot lk4_22 rfl rfl ⟨Nat.le_of_ble_eq_true rfl, Nat.le_of_ble_eq_true rfl, Nat.le_of_ble_eq_true rfl, Nat.le_of_ble_eq_true rfl, Nat.le_of_ble_eq_true rfl⟩ dX4_kept_1 (fun r1 σ1 => ?_)
  refine j_zeq 17 C dX4_kept_4 (by decide) ?_ ?_
  · refine j_iconst (v := 0) 0 C dX4_kept_17 (by decide) ?_
    exact j_iret C hr hlocks rfl dX4_kept_18 (Nat.le_of_ble_eq_true rfl) (Nat.le_of_ble_eq_true rfl)
  · refine j_iload_n 2 C dX4_kept_7 rfl rfl ?_
    refine j_zlt 17 C dX4_kept_8 (by decide) ?_ ?_
    · refine j_iconst (v := 0) 0 C dX4_kept_17 (by decide) ?_
      exact j_iret C hr hlocks rfl dX4_kept_18 (Nat.le_of_ble_eq_true rfl) (Nat.le_of_ble_eq_true rfl)
    · refine j_iload_n 2 C dX4_kept_11 rfl rfl ?_
      refine j_bipush (v := 8) 8 C dX4_kept_12 (by decide) ?_
      refine j_ilt 19 C dX4_kept_14 (by decide) ?_ ?_
      · refine j_aload_n 0 C dX4_kept_19 rfl rfl ?_
        refine j_get 1 C fl4_15 (by decide) (ct_76 E _) rfl dX4_kept_20 ?_
        refine j_iload_n 1 C dX4_kept_23 rfl rfl ?_
        refine j_bipush (v := 8) 8 C dX4_kept_24 (by decide) ?_
        refine j_imul C dX4_kept_26 ?_
        refine j_iload_n 2 C dX4_kept_27 rfl rfl ?_
        refine j_iadd C dX4_kept_28 ?_
        refine j_iald C (by decide) (ct_78 E _) dX4_kept_29 ?_
        exact j_iret C hr hlocks rfl dX4_kept_30 (Nat.le_of_ble_eq_true rfl) (Nat.le_of_ble_eq_true rfl)
      · refine j_iconst (v := 0) 0 C dX4_kept_17 (by decide) ?_
        exact j_iret C hr hlocks rfl dX4_kept_18 (Nat.le_of_ble_eq_true rfl) (Nat.le_of_ble_eq_true rfl)
set_option maxHeartbeats 4000000 in
set_option maxRecDepth 100000 in
theorem con4_giveStory (N : Nat) (o : Nat) (x1 : Int32) (ho : isE o) : ConI yX4_giveStory cX4_giveStory 4 .int rm4_giveStory (fun E => [.ref (ea E 76), .int x1, .ref (ea E o)]) (f4_giveStory N o x1) := by
  refine conI_of (L := fun E => [(0, .ref (ea E 76)), (1, .int x1), (2, .ref (ea E o))]) (by decide) (fun _ => Nat.le_of_ble_eq_true rfl) (fun _ => rfl) ?_
  intro l E σ p e s m args below meth c C hr hlocks
  have wJ75 : ∀ (x3 : Int32) (y0 : Int32) (y1 : Int32) (σ : Hp), J E 4 p l e rm4_giveStory s m args below meth c (QI E below args s rm4_giveStory.cells rm4_giveStory.slots) (f4_giveStory_J75 N o x1 x3 y0 y1 σ) 75 [(3, .int x3)] [.int y0, .int y1, .ref (ea E o)] σ 0 0 := by
    intro x3 y0 y1 σ
    unfold f4_giveStory_J75
    refine j_callVV [.int y1, .int y0] (con1_putLate N o y1 y0 ho) C mi1_putLate mv1_putLate lk4_49 (E_lt ho) (ct_E E ho _) rfl rfl rfl ⟨Nat.le_of_ble_eq_true rfl, Nat.le_of_ble_eq_true rfl, Nat.le_of_ble_eq_true rfl, Nat.le_of_ble_eq_true rfl, Nat.le_of_ble_eq_true rfl⟩ dX4_giveStory_75 (fun σ75 => ?_)
    refine j_iload_n 0 C dX4_giveStory_78 rfl rfl ?_
    exact j_iret C hr hlocks rfl dX4_giveStory_79 (Nat.le_of_ble_eq_true rfl) (Nat.le_of_ble_eq_true rfl)
  unfold f4_giveStory
  refine j_aload_n 2 C dX4_giveStory_0 rfl rfl ?_
  refine j_aload_n 0 C dX4_giveStory_1 rfl rfl ?_
  refine j_iload_n 1 C dX4_giveStory_2 rfl rfl ?_
  refine j_iconst (v := 0) 0 C dX4_giveStory_3 (by decide) ?_
  refine j_callVI [.int x1, .int 0] (con4_kept N x1 0) C mi4_kept mv4_kept lk4_38 (by decide) (ct_76 E _) rfl rfl rfl ⟨Nat.le_of_ble_eq_true rfl, Nat.le_of_ble_eq_true rfl, Nat.le_of_ble_eq_true rfl, Nat.le_of_ble_eq_true rfl, Nat.le_of_ble_eq_true rfl⟩ dX4_giveStory_4 (fun r4 σ4 => ?_)
  refine j_aload_n 0 C dX4_giveStory_7 rfl rfl ?_
  refine j_iload_n 1 C dX4_giveStory_8 rfl rfl ?_
  refine j_iconst (v := 1) 1 C dX4_giveStory_9 (by decide) ?_
  refine j_callVI [.int x1, .int 1] (con4_kept N x1 1) C mi4_kept mv4_kept lk4_38 (by decide) (ct_76 E _) rfl rfl rfl ⟨Nat.le_of_ble_eq_true rfl, Nat.le_of_ble_eq_true rfl, Nat.le_of_ble_eq_true rfl, Nat.le_of_ble_eq_true rfl, Nat.le_of_ble_eq_true rfl⟩ dX4_giveStory_10 (fun r10 σ10 => ?_)
  refine j_aload_n 0 C dX4_giveStory_13 rfl rfl ?_
  refine j_iload_n 1 C dX4_giveStory_14 rfl rfl ?_
  refine j_iconst (v := 2) 2 C dX4_giveStory_15 (by decide) ?_
  refine j_callVI [.int x1, .int 2] (con4_kept N x1 2) C mi4_kept mv4_kept lk4_38 (by decide) (ct_76 E _) rfl rfl rfl ⟨Nat.le_of_ble_eq_true rfl, Nat.le_of_ble_eq_true rfl, Nat.le_of_ble_eq_true rfl, Nat.le_of_ble_eq_true rfl, Nat.le_of_ble_eq_true rfl⟩ dX4_giveStory_16 (fun r16 σ16 => ?_)
  refine j_aload_n 0 C dX4_giveStory_19 rfl rfl ?_
  refine j_iload_n 1 C dX4_giveStory_20 rfl rfl ?_
  refine j_iconst (v := 3) 3 C dX4_giveStory_21 (by decide) ?_
  refine j_callVI [.int x1, .int 3] (con4_kept N x1 3) C mi4_kept mv4_kept lk4_38 (by decide) (ct_76 E _) rfl rfl rfl ⟨Nat.le_of_ble_eq_true rfl, Nat.le_of_ble_eq_true rfl, Nat.le_of_ble_eq_true rfl, Nat.le_of_ble_eq_true rfl, Nat.le_of_ble_eq_true rfl⟩ dX4_giveStory_22 (fun r22 σ22 => ?_)
  refine j_aload_n 0 C dX4_giveStory_25 rfl rfl ?_
  refine j_iload_n 1 C dX4_giveStory_26 rfl rfl ?_
  refine j_iconst (v := 4) 4 C dX4_giveStory_27 (by decide) ?_
  refine j_callVI [.int x1, .int 4] (con4_kept N x1 4) C mi4_kept mv4_kept lk4_38 (by decide) (ct_76 E _) rfl rfl rfl ⟨Nat.le_of_ble_eq_true rfl, Nat.le_of_ble_eq_true rfl, Nat.le_of_ble_eq_true rfl, Nat.le_of_ble_eq_true rfl, Nat.le_of_ble_eq_true rfl⟩ dX4_giveStory_28 (fun r28 σ28 => ?_)
  refine j_callVI [.int r4, .int r10, .int r16, .int r22, .int r28] (con1_putStory N o r4 r10 r16 r22 r28 ho) C mi1_putStory mv1_putStory lk4_41 (E_lt ho) (ct_E E ho _) rfl rfl rfl ⟨Nat.le_of_ble_eq_true rfl, Nat.le_of_ble_eq_true rfl, Nat.le_of_ble_eq_true rfl, Nat.le_of_ble_eq_true rfl, Nat.le_of_ble_eq_true rfl⟩ dX4_giveStory_31 (fun r31 σ31 => ?_)
  refine j_istore_n [(3, .int r31), (0, .ref (ea E 76)), (1, .int x1), (2, .ref (ea E o))] C dX4_giveStory_34 rfl (by decide) rfl ?_
  refine j_iload_n 0 C dX4_giveStory_35 rfl rfl ?_
  refine j_iconst (v := (-1)) (-1) C dX4_giveStory_36 (by decide) ?_
  refine j_ieq 78 C dX4_giveStory_37 (by decide) ?_ ?_
  · refine j_iload_n 0 C dX4_giveStory_78 rfl rfl ?_
    exact j_iret C hr hlocks rfl dX4_giveStory_79 (Nat.le_of_ble_eq_true rfl) (Nat.le_of_ble_eq_true rfl)
  · refine j_aload_n 3 C dX4_giveStory_40 rfl rfl ?_
    refine j_iload_n 0 C dX4_giveStory_41 rfl rfl ?_
    refine j_aload_n 1 C dX4_giveStory_42 rfl rfl ?_
    refine j_iload_n 2 C dX4_giveStory_43 rfl rfl ?_
    refine j_iconst (v := 5) 5 C dX4_giveStory_44 (by decide) ?_
    refine j_callVI [.int x1, .int 5] (con4_kept N x1 5) C mi4_kept mv4_kept lk4_38 (by decide) (ct_76 E _) rfl rfl rfl ⟨Nat.le_of_ble_eq_true rfl, Nat.le_of_ble_eq_true rfl, Nat.le_of_ble_eq_true rfl, Nat.le_of_ble_eq_true rfl, Nat.le_of_ble_eq_true rfl⟩ dX4_giveStory_45 (fun r45 σ45 => ?_)
    refine j_aload_n 1 C dX4_giveStory_48 rfl rfl ?_
    refine j_iload_n 2 C dX4_giveStory_49 rfl rfl ?_
    refine j_bipush (v := 6) 6 C dX4_giveStory_50 (by decide) ?_
    refine j_callVI [.int x1, .int 6] (con4_kept N x1 6) C mi4_kept mv4_kept lk4_38 (by decide) (ct_76 E _) rfl rfl rfl ⟨Nat.le_of_ble_eq_true rfl, Nat.le_of_ble_eq_true rfl, Nat.le_of_ble_eq_true rfl, Nat.le_of_ble_eq_true rfl, Nat.le_of_ble_eq_true rfl⟩ dX4_giveStory_52 (fun r52 σ52 => ?_)
    refine j_callVV [.int r31, .int r45, .int r52] (con1_putPhoto N o r31 r45 r52 ho) C mi1_putPhoto mv1_putPhoto lk4_45 (E_lt ho) (ct_E E ho _) rfl rfl rfl ⟨Nat.le_of_ble_eq_true rfl, Nat.le_of_ble_eq_true rfl, Nat.le_of_ble_eq_true rfl, Nat.le_of_ble_eq_true rfl, Nat.le_of_ble_eq_true rfl⟩ dX4_giveStory_55 (fun σ55 => ?_)
    refine j_aload_n 3 C dX4_giveStory_58 rfl rfl ?_
    refine j_iload_n 0 C dX4_giveStory_59 rfl rfl ?_
    refine j_aload_n 1 C dX4_giveStory_60 rfl rfl ?_
    refine j_iload_n 2 C dX4_giveStory_61 rfl rfl ?_
    refine j_bipush (v := 7) 7 C dX4_giveStory_62 (by decide) ?_
    refine j_callVI [.int x1, .int 7] (con4_kept N x1 7) C mi4_kept mv4_kept lk4_38 (by decide) (ct_76 E _) rfl rfl rfl ⟨Nat.le_of_ble_eq_true rfl, Nat.le_of_ble_eq_true rfl, Nat.le_of_ble_eq_true rfl, Nat.le_of_ble_eq_true rfl, Nat.le_of_ble_eq_true rfl⟩ dX4_giveStory_64 (fun r64 σ64 => ?_)
    refine j_zeq 74 C dX4_giveStory_67 (by decide) ?_ ?_
    · refine j_iconst (v := 0) 0 C dX4_giveStory_74 (by decide) ?_
      exact j_sub [0] rfl (wJ75 r31 0 r31 σ64)
    · refine j_iconst (v := 1) 1 C dX4_giveStory_70 (by decide) ?_
      refine j_goto 75 C dX4_giveStory_71 (by decide) ?_
      exact j_sub [0] rfl (wJ75 r31 1 r31 σ64)
set_option maxHeartbeats 4000000 in
set_option maxRecDepth 100000 in
theorem con4_giveAdvertisement (N : Nat) (o : Nat) (x1 : Int32) (ho : isE o) : ConI yX4_giveAdvertisement cX4_giveAdvertisement 9 .int rm4_giveAdvertisement (fun E => [.ref (ea E 76), .int x1, .ref (ea E o)]) (f4_giveAdvertisement N o x1) := by
  refine conI_of (L := fun E => [(0, .ref (ea E 76)), (1, .int x1), (2, .ref (ea E o))]) (by decide) (fun _ => Nat.le_of_ble_eq_true rfl) (fun _ => rfl) ?_
  intro l E σ p e s m args below meth c C hr hlocks
  unfold f4_giveAdvertisement
  refine j_aload_n 0 C dX4_giveAdvertisement_0 rfl rfl ?_
  refine j_iload_n 1 C dX4_giveAdvertisement_1 rfl rfl ?_
  refine j_iconst (v := 0) 0 C dX4_giveAdvertisement_2 (by decide) ?_
  refine j_callVI [.int x1, .int 0] (con4_kept N x1 0) C mi4_kept mv4_kept lk4_38 (by decide) (ct_76 E _) rfl rfl rfl ⟨Nat.le_of_ble_eq_true rfl, Nat.le_of_ble_eq_true rfl, Nat.le_of_ble_eq_true rfl, Nat.le_of_ble_eq_true rfl, Nat.le_of_ble_eq_true rfl⟩ dX4_giveAdvertisement_3 (fun r3 σ3 => ?_)
  refine j_istore_n [(3, .int r3), (0, .ref (ea E 76)), (1, .int x1), (2, .ref (ea E o))] C dX4_giveAdvertisement_6 rfl (by decide) rfl ?_
  refine j_aload_n 1 C dX4_giveAdvertisement_7 rfl rfl ?_
  refine j_iload_n 2 C dX4_giveAdvertisement_8 rfl rfl ?_
  refine j_iconst (v := 1) 1 C dX4_giveAdvertisement_9 (by decide) ?_
  refine j_callVI [.int x1, .int 1] (con4_kept N x1 1) C mi4_kept mv4_kept lk4_38 (by decide) (ct_76 E _) rfl rfl rfl ⟨Nat.le_of_ble_eq_true rfl, Nat.le_of_ble_eq_true rfl, Nat.le_of_ble_eq_true rfl, Nat.le_of_ble_eq_true rfl, Nat.le_of_ble_eq_true rfl⟩ dX4_giveAdvertisement_10 (fun r10 σ10 => ?_)
  refine j_istore [(4, .int r10), (3, .int r3), (0, .ref (ea E 76)), (1, .int x1), (2, .ref (ea E o))] C dX4_giveAdvertisement_13 (by decide) rfl ?_
  refine j_aload_n 2 C dX4_giveAdvertisement_15 rfl rfl ?_
  refine j_iload_n 3 C dX4_giveAdvertisement_16 rfl rfl ?_
  refine j_iconst (v := 2) 2 C dX4_giveAdvertisement_17 (by decide) ?_
  refine j_callVI [.int x1, .int 2] (con4_kept N x1 2) C mi4_kept mv4_kept lk4_38 (by decide) (ct_76 E _) rfl rfl rfl ⟨Nat.le_of_ble_eq_true rfl, Nat.le_of_ble_eq_true rfl, Nat.le_of_ble_eq_true rfl, Nat.le_of_ble_eq_true rfl, Nat.le_of_ble_eq_true rfl⟩ dX4_giveAdvertisement_18 (fun r18 σ18 => ?_)
  refine j_istore [(5, .int r18), (4, .int r10), (3, .int r3), (0, .ref (ea E 76)), (1, .int x1), (2, .ref (ea E o))] C dX4_giveAdvertisement_21 (by decide) rfl ?_
  refine j_aload_n 3 C dX4_giveAdvertisement_23 rfl rfl ?_
  refine j_iload_n 4 C dX4_giveAdvertisement_24 rfl rfl ?_
  refine j_iconst (v := 3) 3 C dX4_giveAdvertisement_25 (by decide) ?_
  refine j_callVI [.int x1, .int 3] (con4_kept N x1 3) C mi4_kept mv4_kept lk4_38 (by decide) (ct_76 E _) rfl rfl rfl ⟨Nat.le_of_ble_eq_true rfl, Nat.le_of_ble_eq_true rfl, Nat.le_of_ble_eq_true rfl, Nat.le_of_ble_eq_true rfl, Nat.le_of_ble_eq_true rfl⟩ dX4_giveAdvertisement_26 (fun r26 σ26 => ?_)
  refine j_istore [(6, .int r26), (5, .int r18), (4, .int r10), (3, .int r3), (0, .ref (ea E 76)), (1, .int x1), (2, .ref (ea E o))] C dX4_giveAdvertisement_29 (by decide) rfl ?_
  refine j_aload_n 4 C dX4_giveAdvertisement_31 rfl rfl ?_
  refine j_iload_n 5 C dX4_giveAdvertisement_32 rfl rfl ?_
  refine j_iconst (v := 4) 4 C dX4_giveAdvertisement_33 (by decide) ?_
  refine j_callVI [.int x1, .int 4] (con4_kept N x1 4) C mi4_kept mv4_kept lk4_38 (by decide) (ct_76 E _) rfl rfl rfl ⟨Nat.le_of_ble_eq_true rfl, Nat.le_of_ble_eq_true rfl, Nat.le_of_ble_eq_true rfl, Nat.le_of_ble_eq_true rfl, Nat.le_of_ble_eq_true rfl⟩ dX4_giveAdvertisement_34 (fun r34 σ34 => ?_)
  refine j_istore [(7, .int r34), (6, .int r26), (5, .int r18), (4, .int r10), (3, .int r3), (0, .ref (ea E 76)), (1, .int x1), (2, .ref (ea E o))] C dX4_giveAdvertisement_37 (by decide) rfl ?_
  refine j_aload_n 5 C dX4_giveAdvertisement_39 rfl rfl ?_
  refine j_iload_n 6 C dX4_giveAdvertisement_40 rfl rfl ?_
  refine j_iconst (v := 5) 5 C dX4_giveAdvertisement_41 (by decide) ?_
  refine j_callVI [.int x1, .int 5] (con4_kept N x1 5) C mi4_kept mv4_kept lk4_38 (by decide) (ct_76 E _) rfl rfl rfl ⟨Nat.le_of_ble_eq_true rfl, Nat.le_of_ble_eq_true rfl, Nat.le_of_ble_eq_true rfl, Nat.le_of_ble_eq_true rfl, Nat.le_of_ble_eq_true rfl⟩ dX4_giveAdvertisement_42 (fun r42 σ42 => ?_)
  refine j_istore [(8, .int r42), (7, .int r34), (6, .int r26), (5, .int r18), (4, .int r10), (3, .int r3), (0, .ref (ea E 76)), (1, .int x1), (2, .ref (ea E o))] C dX4_giveAdvertisement_45 (by decide) rfl ?_
  refine j_aload_n 8 C dX4_giveAdvertisement_47 rfl rfl ?_
  refine j_iload_n 5 C dX4_giveAdvertisement_48 rfl rfl ?_
  refine j_iload 4 C dX4_giveAdvertisement_49 rfl ?_
  refine j_iload 3 C dX4_giveAdvertisement_51 rfl ?_
  refine j_iload 2 C dX4_giveAdvertisement_53 rfl ?_
  refine j_iload 1 C dX4_giveAdvertisement_55 rfl ?_
  refine j_iload 0 C dX4_giveAdvertisement_57 rfl ?_
  refine j_callVI [.int r3, .int r10, .int r18, .int r26, .int r34, .int r42] (con1_faultOfAdvertisement N o r3 r10 r18 r26 r34 r42 ho) C mi1_faultOfAdvertisement mv1_faultOfAdvertisement lk4_53 (E_lt ho) (ct_E E ho _) rfl rfl rfl ⟨Nat.le_of_ble_eq_true rfl, Nat.le_of_ble_eq_true rfl, Nat.le_of_ble_eq_true rfl, Nat.le_of_ble_eq_true rfl, Nat.le_of_ble_eq_true rfl⟩ dX4_giveAdvertisement_59 (fun r59 σ59 => ?_)
  refine j_zeq 67 C dX4_giveAdvertisement_62 (by decide) ?_ ?_
  · refine j_aload_n 8 C dX4_giveAdvertisement_67 rfl rfl ?_
    refine j_iload_n 5 C dX4_giveAdvertisement_68 rfl rfl ?_
    refine j_iload 4 C dX4_giveAdvertisement_69 rfl ?_
    refine j_iload 3 C dX4_giveAdvertisement_71 rfl ?_
    refine j_iload 2 C dX4_giveAdvertisement_73 rfl ?_
    refine j_iload 1 C dX4_giveAdvertisement_75 rfl ?_
    refine j_iload 0 C dX4_giveAdvertisement_77 rfl ?_
    refine j_callVI [.int r3, .int r10, .int r18, .int r26, .int r34, .int r42] (con1_putAdvertisement N o r3 r10 r18 r26 r34 r42 ho) C mi1_putAdvertisement mv1_putAdvertisement lk4_57 (E_lt ho) (ct_E E ho _) rfl rfl rfl ⟨Nat.le_of_ble_eq_true rfl, Nat.le_of_ble_eq_true rfl, Nat.le_of_ble_eq_true rfl, Nat.le_of_ble_eq_true rfl, Nat.le_of_ble_eq_true rfl⟩ dX4_giveAdvertisement_79 (fun r79 σ79 => ?_)
    exact j_iret C hr hlocks rfl dX4_giveAdvertisement_82 (Nat.le_of_ble_eq_true rfl) (Nat.le_of_ble_eq_true rfl)
  · refine j_iconst (v := (-1)) (-1) C dX4_giveAdvertisement_65 (by decide) ?_
    exact j_iret C hr hlocks rfl dX4_giveAdvertisement_66 (Nat.le_of_ble_eq_true rfl) (Nat.le_of_ble_eq_true rfl)
