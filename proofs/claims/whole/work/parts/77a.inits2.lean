abbrev rmN2 : Room := { frames := 2, cells := 41, slots := 1368, locals := 32 }
def g2 (cA : Nat → ClassId) (a : Nat → Nat) : va_W := (a 0, .inr (2, [.ref (a 1), .int 0, .int 0])) :: (a 1, .inl (cA 3, 8, .inr (.inr (.inr (.inr (va_up (va_up (va_up (va_up (va_up (va_up (va_up (va_up (fun _ => none) (0 : Int32).toNatClampNeg (some (a 2))) (1 : Int32).toNatClampNeg (some (a 7))) (2 : Int32).toNatClampNeg (some (a 12))) (3 : Int32).toNatClampNeg (some (a 17))) (4 : Int32).toNatClampNeg (some (a 22))) (5 : Int32).toNatClampNeg (some (a 27))) (6 : Int32).toNatClampNeg (some (a 32))) (7 : Int32).toNatClampNeg (some (a 37)))))))) :: (((((((([] ++ g1 cA (fun i => a (2 + i))) ++ g1 cA (fun i => a (7 + i))) ++ g1 cA (fun i => a (12 + i))) ++ g1 cA (fun i => a (17 + i))) ++ g1 cA (fun i => a (22 + i))) ++ g1 cA (fun i => a (27 + i))) ++ g1 cA (fun i => a (32 + i))) ++ g1 cA (fun i => a (37 + i)))
set_option maxHeartbeats 4000000 in
set_option maxRecDepth 100000 in
theorem con2_init : ConN yX2_init cX2_init 2 rmN2 [] 2 [.null, .int 0, .int 0] (g2) := by
  refine conN_of (L := fun h0 => [(0, .ref h0)]) rfl (fun _ => Nat.le_of_ble_eq_true rfl) (fun _ => rfl) ?_
  intro l G cA h0 A p e s m args below meth c hA C hr hlocks hm
  refine n_aload_n 0 C dX2_init_0 rfl rfl ?_
  refine n_objInit C ⟨mem_all 168 (by decide +kernel) (by decide +kernel), mem_all 99 (by decide +kernel) (by decide +kernel), mem_all 100 (by decide +kernel) (by decide +kernel)⟩ ⟨Nat.le_of_ble_eq_true rfl, Nat.le_of_ble_eq_true rfl⟩ dX2_init_1 ?_
  refine n_aload_n 0 C dX2_init_4 rfl rfl ?_
  refine n_bipush (v := 8) 8 C dX2_init_5 (by decide) ?_
  refine n_newq (nn := 8) (N' := 8) (W1 := fun q7 => (h0, .inr (2, [.null, .int 0, .int 0])) :: (q7, .inl (cA 3, 8, .inr (.inr (.inr (.inr (fun _ => none)))))) :: []) C (mem_all 169 (by decide +kernel) (by decide +kernel)) (by decide) (by decide) (by decide) (Nat.le_of_ble_eq_true rfl) (Nat.le_of_ble_eq_true rfl) dX2_init_7 (fun _ => rfl) (fun q7 => ?_)
  refine n_putR 0 C fl2_11 rfl hm rfl (tyX2_ok 0 (by decide)) rfl rfl (Nat.le_of_ble_eq_true rfl) dX2_init_10 ?_
  refine n_iconst (v := 0) 0 C dX2_init_13 (by decide) ?_
  refine n_istore_n [(1, .int 0), (0, .ref h0)] C dX2_init_14 rfl (by decide) rfl ?_
  refine n_iload_n 0 C dX2_init_15 rfl rfl ?_
  refine n_bipush (v := 8) 8 C dX2_init_16 (by decide) ?_
  refine n_geN 40 C dX2_init_18 (by decide) (by decide) ?_
  refine n_aload_n 1 C dX2_init_21 rfl rfl ?_
  refine n_get 0 C fl2_11 rfl dX2_init_22 ?_
  refine n_iload_n 0 C dX2_init_25 rfl rfl ?_
  refine n_new (W1 := fun q26_0 => (h0, .inr (2, [.ref q7, .int 0, .int 0])) :: (q7, .inl (cA 3, 8, .inr (.inr (.inr (.inr (fun _ => none)))))) :: ([] ++ [(q26_0, .inr (1, [.null, .null, .null, .null, .int 0, .int 0]))])) C kc1 ⟨mem_all 169 (by decide +kernel) (by decide +kernel), mem_all 108 (by decide +kernel) (by decide +kernel), mem_all 79 (by decide +kernel) (by decide +kernel)⟩ df1 (Nat.le_of_ble_eq_true rfl) (Nat.le_of_ble_eq_true rfl) dX2_init_26 (fun _ => rfl) (fun q26_0 => ?_)
  refine n_dup C dX2_init_29 rfl ?_
  refine n_callN (As := []) (q := q26_0) (st := [.ref q26_0, .int 0, .ref q7]) (ws := (h0, .inr (2, [.ref q7, .int 0, .int 0])) :: (q7, .inl (cA 3, 8, .inr (.inr (.inr (.inr (fun _ => none)))))) :: []) (W1 := fun a0 => (h0, .inr (2, [.ref q7, .int 0, .int 0])) :: (q7, .inl (cA 3, 8, .inr (.inr (.inr (.inr (fun _ => none)))))) :: ([] ++ g1 cA a0)) (con1_init) C mi1_init rfl (mem_all 110 (by decide +kernel) (by decide +kernel)) lk2_17 rfl ⟨Nat.le_of_ble_eq_true rfl, Nat.le_of_ble_eq_true rfl, Nat.le_of_ble_eq_true rfl, Nat.le_of_ble_eq_true rfl, Nat.le_of_ble_eq_true rfl⟩ dX2_init_30 rfl (fun _ => rfl) (fun a0 ea0 => ?_)
  subst ea0
  refine n_aast 2 C rfl (vib_in (by decide)) dX2_init_33 ?_
  refine n_iinc 0 1 1 [(1, .int 1), (0, .ref h0)] C dX2_init_34 rfl (by decide) (by decide) (by decide) rfl ?_
  refine n_goto 15 C dX2_init_37 (by decide) ?_
  refine n_iload_n 0 C dX2_init_15 rfl rfl ?_
  refine n_bipush (v := 8) 8 C dX2_init_16 (by decide) ?_
  refine n_geN 40 C dX2_init_18 (by decide) (by decide) ?_
  refine n_aload_n 1 C dX2_init_21 rfl rfl ?_
  refine n_get 0 C fl2_11 rfl dX2_init_22 ?_
  refine n_iload_n 0 C dX2_init_25 rfl rfl ?_
  refine n_new (W1 := fun q26_1 => (h0, .inr (2, [.ref q7, .int 0, .int 0])) :: (q7, .inl (cA 3, 8, .inr (.inr (.inr (.inr (va_up (fun _ => none) (0 : Int32).toNatClampNeg (some (a0 0)))))))) :: (([] ++ g1 cA a0) ++ [(q26_1, .inr (1, [.null, .null, .null, .null, .int 0, .int 0]))])) C kc1 ⟨mem_all 169 (by decide +kernel) (by decide +kernel), mem_all 108 (by decide +kernel) (by decide +kernel), mem_all 79 (by decide +kernel) (by decide +kernel)⟩ df1 (Nat.le_of_ble_eq_true rfl) (Nat.le_of_ble_eq_true rfl) dX2_init_26 (fun _ => rfl) (fun q26_1 => ?_)
  refine n_dup C dX2_init_29 rfl ?_
  refine n_callN (As := []) (q := q26_1) (st := [.ref q26_1, .int 1, .ref q7]) (ws := (h0, .inr (2, [.ref q7, .int 0, .int 0])) :: (q7, .inl (cA 3, 8, .inr (.inr (.inr (.inr (va_up (fun _ => none) (0 : Int32).toNatClampNeg (some (a0 0)))))))) :: ([] ++ g1 cA a0)) (W1 := fun a1 => (h0, .inr (2, [.ref q7, .int 0, .int 0])) :: (q7, .inl (cA 3, 8, .inr (.inr (.inr (.inr (va_up (fun _ => none) (0 : Int32).toNatClampNeg (some (a0 0)))))))) :: (([] ++ g1 cA a0) ++ g1 cA a1)) (con1_init) C mi1_init rfl (mem_all 110 (by decide +kernel) (by decide +kernel)) lk2_17 rfl ⟨Nat.le_of_ble_eq_true rfl, Nat.le_of_ble_eq_true rfl, Nat.le_of_ble_eq_true rfl, Nat.le_of_ble_eq_true rfl, Nat.le_of_ble_eq_true rfl⟩ dX2_init_30 rfl (fun _ => rfl) (fun a1 ea1 => ?_)
  subst ea1
  refine n_aast 7 C rfl (vib_in (by decide)) dX2_init_33 ?_
  refine n_iinc 0 1 1 [(1, .int 2), (0, .ref h0)] C dX2_init_34 rfl (by decide) (by decide) (by decide) rfl ?_
  refine n_goto 15 C dX2_init_37 (by decide) ?_
  refine n_iload_n 0 C dX2_init_15 rfl rfl ?_
  refine n_bipush (v := 8) 8 C dX2_init_16 (by decide) ?_
  refine n_geN 40 C dX2_init_18 (by decide) (by decide) ?_
  refine n_aload_n 1 C dX2_init_21 rfl rfl ?_
  refine n_get 0 C fl2_11 rfl dX2_init_22 ?_
  refine n_iload_n 0 C dX2_init_25 rfl rfl ?_
  refine n_new (W1 := fun q26_2 => (h0, .inr (2, [.ref q7, .int 0, .int 0])) :: (q7, .inl (cA 3, 8, .inr (.inr (.inr (.inr (va_up (va_up (fun _ => none) (0 : Int32).toNatClampNeg (some (a0 0))) (1 : Int32).toNatClampNeg (some (a1 0)))))))) :: ((([] ++ g1 cA a0) ++ g1 cA a1) ++ [(q26_2, .inr (1, [.null, .null, .null, .null, .int 0, .int 0]))])) C kc1 ⟨mem_all 169 (by decide +kernel) (by decide +kernel), mem_all 108 (by decide +kernel) (by decide +kernel), mem_all 79 (by decide +kernel) (by decide +kernel)⟩ df1 (Nat.le_of_ble_eq_true rfl) (Nat.le_of_ble_eq_true rfl) dX2_init_26 (fun _ => rfl) (fun q26_2 => ?_)
  refine n_dup C dX2_init_29 rfl ?_
  refine n_callN (As := []) (q := q26_2) (st := [.ref q26_2, .int 2, .ref q7]) (ws := (h0, .inr (2, [.ref q7, .int 0, .int 0])) :: (q7, .inl (cA 3, 8, .inr (.inr (.inr (.inr (va_up (va_up (fun _ => none) (0 : Int32).toNatClampNeg (some (a0 0))) (1 : Int32).toNatClampNeg (some (a1 0)))))))) :: (([] ++ g1 cA a0) ++ g1 cA a1)) (W1 := fun a2 => (h0, .inr (2, [.ref q7, .int 0, .int 0])) :: (q7, .inl (cA 3, 8, .inr (.inr (.inr (.inr (va_up (va_up (fun _ => none) (0 : Int32).toNatClampNeg (some (a0 0))) (1 : Int32).toNatClampNeg (some (a1 0)))))))) :: ((([] ++ g1 cA a0) ++ g1 cA a1) ++ g1 cA a2)) (con1_init) C mi1_init rfl (mem_all 110 (by decide +kernel) (by decide +kernel)) lk2_17 rfl ⟨Nat.le_of_ble_eq_true rfl, Nat.le_of_ble_eq_true rfl, Nat.le_of_ble_eq_true rfl, Nat.le_of_ble_eq_true rfl, Nat.le_of_ble_eq_true rfl⟩ dX2_init_30 rfl (fun _ => rfl) (fun a2 ea2 => ?_)
  subst ea2
  refine n_aast 12 C rfl (vib_in (by decide)) dX2_init_33 ?_
  refine n_iinc 0 1 1 [(1, .int 3), (0, .ref h0)] C dX2_init_34 rfl (by decide) (by decide) (by decide) rfl ?_
  refine n_goto 15 C dX2_init_37 (by decide) ?_
  refine n_iload_n 0 C dX2_init_15 rfl rfl ?_
  refine n_bipush (v := 8) 8 C dX2_init_16 (by decide) ?_
  refine n_geN 40 C dX2_init_18 (by decide) (by decide) ?_
  refine n_aload_n 1 C dX2_init_21 rfl rfl ?_
  refine n_get 0 C fl2_11 rfl dX2_init_22 ?_
  refine n_iload_n 0 C dX2_init_25 rfl rfl ?_
  refine n_new (W1 := fun q26_3 => (h0, .inr (2, [.ref q7, .int 0, .int 0])) :: (q7, .inl (cA 3, 8, .inr (.inr (.inr (.inr (va_up (va_up (va_up (fun _ => none) (0 : Int32).toNatClampNeg (some (a0 0))) (1 : Int32).toNatClampNeg (some (a1 0))) (2 : Int32).toNatClampNeg (some (a2 0)))))))) :: (((([] ++ g1 cA a0) ++ g1 cA a1) ++ g1 cA a2) ++ [(q26_3, .inr (1, [.null, .null, .null, .null, .int 0, .int 0]))])) C kc1 ⟨mem_all 169 (by decide +kernel) (by decide +kernel), mem_all 108 (by decide +kernel) (by decide +kernel), mem_all 79 (by decide +kernel) (by decide +kernel)⟩ df1 (Nat.le_of_ble_eq_true rfl) (Nat.le_of_ble_eq_true rfl) dX2_init_26 (fun _ => rfl) (fun q26_3 => ?_)
  refine n_dup C dX2_init_29 rfl ?_
  refine n_callN (As := []) (q := q26_3) (st := [.ref q26_3, .int 3, .ref q7]) (ws := (h0, .inr (2, [.ref q7, .int 0, .int 0])) :: (q7, .inl (cA 3, 8, .inr (.inr (.inr (.inr (va_up (va_up (va_up (fun _ => none) (0 : Int32).toNatClampNeg (some (a0 0))) (1 : Int32).toNatClampNeg (some (a1 0))) (2 : Int32).toNatClampNeg (some (a2 0)))))))) :: ((([] ++ g1 cA a0) ++ g1 cA a1) ++ g1 cA a2)) (W1 := fun a3 => (h0, .inr (2, [.ref q7, .int 0, .int 0])) :: (q7, .inl (cA 3, 8, .inr (.inr (.inr (.inr (va_up (va_up (va_up (fun _ => none) (0 : Int32).toNatClampNeg (some (a0 0))) (1 : Int32).toNatClampNeg (some (a1 0))) (2 : Int32).toNatClampNeg (some (a2 0)))))))) :: (((([] ++ g1 cA a0) ++ g1 cA a1) ++ g1 cA a2) ++ g1 cA a3)) (con1_init) C mi1_init rfl (mem_all 110 (by decide +kernel) (by decide +kernel)) lk2_17 rfl ⟨Nat.le_of_ble_eq_true rfl, Nat.le_of_ble_eq_true rfl, Nat.le_of_ble_eq_true rfl, Nat.le_of_ble_eq_true rfl, Nat.le_of_ble_eq_true rfl⟩ dX2_init_30 rfl (fun _ => rfl) (fun a3 ea3 => ?_)
  subst ea3
  refine n_aast 17 C rfl (vib_in (by decide)) dX2_init_33 ?_
  refine n_iinc 0 1 1 [(1, .int 4), (0, .ref h0)] C dX2_init_34 rfl (by decide) (by decide) (by decide) rfl ?_
  refine n_goto 15 C dX2_init_37 (by decide) ?_
  refine n_iload_n 0 C dX2_init_15 rfl rfl ?_
  refine n_bipush (v := 8) 8 C dX2_init_16 (by decide) ?_
  refine n_geN 40 C dX2_init_18 (by decide) (by decide) ?_
  refine n_aload_n 1 C dX2_init_21 rfl rfl ?_
  refine n_get 0 C fl2_11 rfl dX2_init_22 ?_
  refine n_iload_n 0 C dX2_init_25 rfl rfl ?_
  refine n_new (W1 := fun q26_4 => (h0, .inr (2, [.ref q7, .int 0, .int 0])) :: (q7, .inl (cA 3, 8, .inr (.inr (.inr (.inr (va_up (va_up (va_up (va_up (fun _ => none) (0 : Int32).toNatClampNeg (some (a0 0))) (1 : Int32).toNatClampNeg (some (a1 0))) (2 : Int32).toNatClampNeg (some (a2 0))) (3 : Int32).toNatClampNeg (some (a3 0)))))))) :: ((((([] ++ g1 cA a0) ++ g1 cA a1) ++ g1 cA a2) ++ g1 cA a3) ++ [(q26_4, .inr (1, [.null, .null, .null, .null, .int 0, .int 0]))])) C kc1 ⟨mem_all 169 (by decide +kernel) (by decide +kernel), mem_all 108 (by decide +kernel) (by decide +kernel), mem_all 79 (by decide +kernel) (by decide +kernel)⟩ df1 (Nat.le_of_ble_eq_true rfl) (Nat.le_of_ble_eq_true rfl) dX2_init_26 (fun _ => rfl) (fun q26_4 => ?_)
  refine n_dup C dX2_init_29 rfl ?_
  refine n_callN (As := []) (q := q26_4) (st := [.ref q26_4, .int 4, .ref q7]) (ws := (h0, .inr (2, [.ref q7, .int 0, .int 0])) :: (q7, .inl (cA 3, 8, .inr (.inr (.inr (.inr (va_up (va_up (va_up (va_up (fun _ => none) (0 : Int32).toNatClampNeg (some (a0 0))) (1 : Int32).toNatClampNeg (some (a1 0))) (2 : Int32).toNatClampNeg (some (a2 0))) (3 : Int32).toNatClampNeg (some (a3 0)))))))) :: (((([] ++ g1 cA a0) ++ g1 cA a1) ++ g1 cA a2) ++ g1 cA a3)) (W1 := fun a4 => (h0, .inr (2, [.ref q7, .int 0, .int 0])) :: (q7, .inl (cA 3, 8, .inr (.inr (.inr (.inr (va_up (va_up (va_up (va_up (fun _ => none) (0 : Int32).toNatClampNeg (some (a0 0))) (1 : Int32).toNatClampNeg (some (a1 0))) (2 : Int32).toNatClampNeg (some (a2 0))) (3 : Int32).toNatClampNeg (some (a3 0)))))))) :: ((((([] ++ g1 cA a0) ++ g1 cA a1) ++ g1 cA a2) ++ g1 cA a3) ++ g1 cA a4)) (con1_init) C mi1_init rfl (mem_all 110 (by decide +kernel) (by decide +kernel)) lk2_17 rfl ⟨Nat.le_of_ble_eq_true rfl, Nat.le_of_ble_eq_true rfl, Nat.le_of_ble_eq_true rfl, Nat.le_of_ble_eq_true rfl, Nat.le_of_ble_eq_true rfl⟩ dX2_init_30 rfl (fun _ => rfl) (fun a4 ea4 => ?_)
  subst ea4
  refine n_aast 22 C rfl (vib_in (by decide)) dX2_init_33 ?_
  refine n_iinc 0 1 1 [(1, .int 5), (0, .ref h0)] C dX2_init_34 rfl (by decide) (by decide) (by decide) rfl ?_
  refine n_goto 15 C dX2_init_37 (by decide) ?_
  refine n_iload_n 0 C dX2_init_15 rfl rfl ?_
  refine n_bipush (v := 8) 8 C dX2_init_16 (by decide) ?_
  refine n_geN 40 C dX2_init_18 (by decide) (by decide) ?_
  refine n_aload_n 1 C dX2_init_21 rfl rfl ?_
  refine n_get 0 C fl2_11 rfl dX2_init_22 ?_
  refine n_iload_n 0 C dX2_init_25 rfl rfl ?_
  refine n_new (W1 := fun q26_5 => (h0, .inr (2, [.ref q7, .int 0, .int 0])) :: (q7, .inl (cA 3, 8, .inr (.inr (.inr (.inr (va_up (va_up (va_up (va_up (va_up (fun _ => none) (0 : Int32).toNatClampNeg (some (a0 0))) (1 : Int32).toNatClampNeg (some (a1 0))) (2 : Int32).toNatClampNeg (some (a2 0))) (3 : Int32).toNatClampNeg (some (a3 0))) (4 : Int32).toNatClampNeg (some (a4 0)))))))) :: (((((([] ++ g1 cA a0) ++ g1 cA a1) ++ g1 cA a2) ++ g1 cA a3) ++ g1 cA a4) ++ [(q26_5, .inr (1, [.null, .null, .null, .null, .int 0, .int 0]))])) C kc1 ⟨mem_all 169 (by decide +kernel) (by decide +kernel), mem_all 108 (by decide +kernel) (by decide +kernel), mem_all 79 (by decide +kernel) (by decide +kernel)⟩ df1 (Nat.le_of_ble_eq_true rfl) (Nat.le_of_ble_eq_true rfl) dX2_init_26 (fun _ => rfl) (fun q26_5 => ?_)
  refine n_dup C dX2_init_29 rfl ?_
  refine n_callN (As := []) (q := q26_5) (st := [.ref q26_5, .int 5, .ref q7]) (ws := (h0, .inr (2, [.ref q7, .int 0, .int 0])) :: (q7, .inl (cA 3, 8, .inr (.inr (.inr (.inr (va_up (va_up (va_up (va_up (va_up (fun _ => none) (0 : Int32).toNatClampNeg (some (a0 0))) (1 : Int32).toNatClampNeg (some (a1 0))) (2 : Int32).toNatClampNeg (some (a2 0))) (3 : Int32).toNatClampNeg (some (a3 0))) (4 : Int32).toNatClampNeg (some (a4 0)))))))) :: ((((([] ++ g1 cA a0) ++ g1 cA a1) ++ g1 cA a2) ++ g1 cA a3) ++ g1 cA a4)) (W1 := fun a5 => (h0, .inr (2, [.ref q7, .int 0, .int 0])) :: (q7, .inl (cA 3, 8, .inr (.inr (.inr (.inr (va_up (va_up (va_up (va_up (va_up (fun _ => none) (0 : Int32).toNatClampNeg (some (a0 0))) (1 : Int32).toNatClampNeg (some (a1 0))) (2 : Int32).toNatClampNeg (some (a2 0))) (3 : Int32).toNatClampNeg (some (a3 0))) (4 : Int32).toNatClampNeg (some (a4 0)))))))) :: (((((([] ++ g1 cA a0) ++ g1 cA a1) ++ g1 cA a2) ++ g1 cA a3) ++ g1 cA a4) ++ g1 cA a5)) (con1_init) C mi1_init rfl (mem_all 110 (by decide +kernel) (by decide +kernel)) lk2_17 rfl ⟨Nat.le_of_ble_eq_true rfl, Nat.le_of_ble_eq_true rfl, Nat.le_of_ble_eq_true rfl, Nat.le_of_ble_eq_true rfl, Nat.le_of_ble_eq_true rfl⟩ dX2_init_30 rfl (fun _ => rfl) (fun a5 ea5 => ?_)
  subst ea5
  refine n_aast 27 C rfl (vib_in (by decide)) dX2_init_33 ?_
  refine n_iinc 0 1 1 [(1, .int 6), (0, .ref h0)] C dX2_init_34 rfl (by decide) (by decide) (by decide) rfl ?_
  refine n_goto 15 C dX2_init_37 (by decide) ?_
  refine n_iload_n 0 C dX2_init_15 rfl rfl ?_
  refine n_bipush (v := 8) 8 C dX2_init_16 (by decide) ?_
  refine n_geN 40 C dX2_init_18 (by decide) (by decide) ?_
  refine n_aload_n 1 C dX2_init_21 rfl rfl ?_
  refine n_get 0 C fl2_11 rfl dX2_init_22 ?_
  refine n_iload_n 0 C dX2_init_25 rfl rfl ?_
  refine n_new (W1 := fun q26_6 => (h0, .inr (2, [.ref q7, .int 0, .int 0])) :: (q7, .inl (cA 3, 8, .inr (.inr (.inr (.inr (va_up (va_up (va_up (va_up (va_up (va_up (fun _ => none) (0 : Int32).toNatClampNeg (some (a0 0))) (1 : Int32).toNatClampNeg (some (a1 0))) (2 : Int32).toNatClampNeg (some (a2 0))) (3 : Int32).toNatClampNeg (some (a3 0))) (4 : Int32).toNatClampNeg (some (a4 0))) (5 : Int32).toNatClampNeg (some (a5 0)))))))) :: ((((((([] ++ g1 cA a0) ++ g1 cA a1) ++ g1 cA a2) ++ g1 cA a3) ++ g1 cA a4) ++ g1 cA a5) ++ [(q26_6, .inr (1, [.null, .null, .null, .null, .int 0, .int 0]))])) C kc1 ⟨mem_all 169 (by decide +kernel) (by decide +kernel), mem_all 108 (by decide +kernel) (by decide +kernel), mem_all 79 (by decide +kernel) (by decide +kernel)⟩ df1 (Nat.le_of_ble_eq_true rfl) (Nat.le_of_ble_eq_true rfl) dX2_init_26 (fun _ => rfl) (fun q26_6 => ?_)
  refine n_dup C dX2_init_29 rfl ?_
  refine n_callN (As := []) (q := q26_6) (st := [.ref q26_6, .int 6, .ref q7]) (ws := (h0, .inr (2, [.ref q7, .int 0, .int 0])) :: (q7, .inl (cA 3, 8, .inr (.inr (.inr (.inr (va_up (va_up (va_up (va_up (va_up (va_up (fun _ => none) (0 : Int32).toNatClampNeg (some (a0 0))) (1 : Int32).toNatClampNeg (some (a1 0))) (2 : Int32).toNatClampNeg (some (a2 0))) (3 : Int32).toNatClampNeg (some (a3 0))) (4 : Int32).toNatClampNeg (some (a4 0))) (5 : Int32).toNatClampNeg (some (a5 0)))))))) :: (((((([] ++ g1 cA a0) ++ g1 cA a1) ++ g1 cA a2) ++ g1 cA a3) ++ g1 cA a4) ++ g1 cA a5)) (W1 := fun a6 => (h0, .inr (2, [.ref q7, .int 0, .int 0])) :: (q7, .inl (cA 3, 8, .inr (.inr (.inr (.inr (va_up (va_up (va_up (va_up (va_up (va_up (fun _ => none) (0 : Int32).toNatClampNeg (some (a0 0))) (1 : Int32).toNatClampNeg (some (a1 0))) (2 : Int32).toNatClampNeg (some (a2 0))) (3 : Int32).toNatClampNeg (some (a3 0))) (4 : Int32).toNatClampNeg (some (a4 0))) (5 : Int32).toNatClampNeg (some (a5 0)))))))) :: ((((((([] ++ g1 cA a0) ++ g1 cA a1) ++ g1 cA a2) ++ g1 cA a3) ++ g1 cA a4) ++ g1 cA a5) ++ g1 cA a6)) (con1_init) C mi1_init rfl (mem_all 110 (by decide +kernel) (by decide +kernel)) lk2_17 rfl ⟨Nat.le_of_ble_eq_true rfl, Nat.le_of_ble_eq_true rfl, Nat.le_of_ble_eq_true rfl, Nat.le_of_ble_eq_true rfl, Nat.le_of_ble_eq_true rfl⟩ dX2_init_30 rfl (fun _ => rfl) (fun a6 ea6 => ?_)
  subst ea6
  refine n_aast 32 C rfl (vib_in (by decide)) dX2_init_33 ?_
  refine n_iinc 0 1 1 [(1, .int 7), (0, .ref h0)] C dX2_init_34 rfl (by decide) (by decide) (by decide) rfl ?_
  refine n_goto 15 C dX2_init_37 (by decide) ?_
  refine n_iload_n 0 C dX2_init_15 rfl rfl ?_
  refine n_bipush (v := 8) 8 C dX2_init_16 (by decide) ?_
  refine n_geN 40 C dX2_init_18 (by decide) (by decide) ?_
  refine n_aload_n 1 C dX2_init_21 rfl rfl ?_
  refine n_get 0 C fl2_11 rfl dX2_init_22 ?_
  refine n_iload_n 0 C dX2_init_25 rfl rfl ?_
  refine n_new (W1 := fun q26_7 => (h0, .inr (2, [.ref q7, .int 0, .int 0])) :: (q7, .inl (cA 3, 8, .inr (.inr (.inr (.inr (va_up (va_up (va_up (va_up (va_up (va_up (va_up (fun _ => none) (0 : Int32).toNatClampNeg (some (a0 0))) (1 : Int32).toNatClampNeg (some (a1 0))) (2 : Int32).toNatClampNeg (some (a2 0))) (3 : Int32).toNatClampNeg (some (a3 0))) (4 : Int32).toNatClampNeg (some (a4 0))) (5 : Int32).toNatClampNeg (some (a5 0))) (6 : Int32).toNatClampNeg (some (a6 0)))))))) :: (((((((([] ++ g1 cA a0) ++ g1 cA a1) ++ g1 cA a2) ++ g1 cA a3) ++ g1 cA a4) ++ g1 cA a5) ++ g1 cA a6) ++ [(q26_7, .inr (1, [.null, .null, .null, .null, .int 0, .int 0]))])) C kc1 ⟨mem_all 169 (by decide +kernel) (by decide +kernel), mem_all 108 (by decide +kernel) (by decide +kernel), mem_all 79 (by decide +kernel) (by decide +kernel)⟩ df1 (Nat.le_of_ble_eq_true rfl) (Nat.le_of_ble_eq_true rfl) dX2_init_26 (fun _ => rfl) (fun q26_7 => ?_)
  refine n_dup C dX2_init_29 rfl ?_
  refine n_callN (As := []) (q := q26_7) (st := [.ref q26_7, .int 7, .ref q7]) (ws := (h0, .inr (2, [.ref q7, .int 0, .int 0])) :: (q7, .inl (cA 3, 8, .inr (.inr (.inr (.inr (va_up (va_up (va_up (va_up (va_up (va_up (va_up (fun _ => none) (0 : Int32).toNatClampNeg (some (a0 0))) (1 : Int32).toNatClampNeg (some (a1 0))) (2 : Int32).toNatClampNeg (some (a2 0))) (3 : Int32).toNatClampNeg (some (a3 0))) (4 : Int32).toNatClampNeg (some (a4 0))) (5 : Int32).toNatClampNeg (some (a5 0))) (6 : Int32).toNatClampNeg (some (a6 0)))))))) :: ((((((([] ++ g1 cA a0) ++ g1 cA a1) ++ g1 cA a2) ++ g1 cA a3) ++ g1 cA a4) ++ g1 cA a5) ++ g1 cA a6)) (W1 := fun a7 => (h0, .inr (2, [.ref q7, .int 0, .int 0])) :: (q7, .inl (cA 3, 8, .inr (.inr (.inr (.inr (va_up (va_up (va_up (va_up (va_up (va_up (va_up (fun _ => none) (0 : Int32).toNatClampNeg (some (a0 0))) (1 : Int32).toNatClampNeg (some (a1 0))) (2 : Int32).toNatClampNeg (some (a2 0))) (3 : Int32).toNatClampNeg (some (a3 0))) (4 : Int32).toNatClampNeg (some (a4 0))) (5 : Int32).toNatClampNeg (some (a5 0))) (6 : Int32).toNatClampNeg (some (a6 0)))))))) :: (((((((([] ++ g1 cA a0) ++ g1 cA a1) ++ g1 cA a2) ++ g1 cA a3) ++ g1 cA a4) ++ g1 cA a5) ++ g1 cA a6) ++ g1 cA a7)) (con1_init) C mi1_init rfl (mem_all 110 (by decide +kernel) (by decide +kernel)) lk2_17 rfl ⟨Nat.le_of_ble_eq_true rfl, Nat.le_of_ble_eq_true rfl, Nat.le_of_ble_eq_true rfl, Nat.le_of_ble_eq_true rfl, Nat.le_of_ble_eq_true rfl⟩ dX2_init_30 rfl (fun _ => rfl) (fun a7 ea7 => ?_)
  subst ea7
  refine n_aast 37 C rfl (vib_in (by decide)) dX2_init_33 ?_
  refine n_iinc 0 1 1 [(1, .int 8), (0, .ref h0)] C dX2_init_34 rfl (by decide) (by decide) (by decide) rfl ?_
  refine n_goto 15 C dX2_init_37 (by decide) ?_
  refine n_iload_n 0 C dX2_init_15 rfl rfl ?_
  refine n_bipush (v := 8) 8 C dX2_init_16 (by decide) ?_
  refine n_geY 40 C dX2_init_18 (by decide) (by decide) ?_
  exact n_ret (grp := g2) (pk [h0, q7, a0 0, a0 1, a0 2, a0 3, a0 4, a1 0, a1 1, a1 2, a1 3, a1 4, a2 0, a2 1, a2 2, a2 3, a2 4, a3 0, a3 1, a3 2, a3 3, a3 4, a4 0, a4 1, a4 2, a4 3, a4 4, a5 0, a5 1, a5 2, a5 3, a5 4, a6 0, a6 1, a6 2, a6 3, a6 4, a7 0, a7 1, a7 2, a7 3, a7 4]) C hr hlocks dX2_init_40 (Nat.le_of_ble_eq_true rfl) (Nat.le_of_ble_eq_true rfl) rfl (by rfl)
