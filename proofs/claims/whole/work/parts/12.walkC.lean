set_option maxHeartbeats 4000000 in
set_option maxRecDepth 100000 in
theorem con5_refuse (N : Nat) (x0 : Int32) : CoXV yX5_refuse cX5_refuse 1 rm5_refuse (fun E => [.int x0]) (f5_refuse N x0) := by
  refine coXV_of (L := fun E => [(0, .int x0)]) (by decide) (fun _ => Nat.le_of_ble_eq_true rfl) (fun _ => rfl) ?_
  intro l E σ p e s m args below meth c C hr hlocks hT ht
  unfold f5_refuse
  refine j_iload_n 0 C dX5_refuse_0 rfl rfl ?_
  refine j_ite (fun q1_0 => ?_) (fun q1_0 => ?_)
  · refine j_tin 28 C dX5_refuse_1 q1_0 (by decide) (by decide) rfl (by decide) ?_
    exact j_throw C hT ht hlocks th5_169_171 dX5_refuse_28 dX5_refuse_31 dX5_refuse_32 dX5_refuse_35 ⟨Nat.le_of_ble_eq_true rfl, Nat.le_of_ble_eq_true rfl, Nat.le_of_ble_eq_true rfl, Nat.le_of_ble_eq_true rfl⟩ (Nat.le_of_ble_eq_true rfl) (Nat.le_of_ble_eq_true rfl)
  refine j_ite (fun q1_1 => ?_) (fun q1_1 => ?_)
  · refine j_tin 36 C dX5_refuse_1 q1_1 (by decide) (by decide) rfl (by decide) ?_
    exact j_throw C hT ht hlocks th5_106_108 dX5_refuse_36 dX5_refuse_39 dX5_refuse_40 dX5_refuse_43 ⟨Nat.le_of_ble_eq_true rfl, Nat.le_of_ble_eq_true rfl, Nat.le_of_ble_eq_true rfl, Nat.le_of_ble_eq_true rfl⟩ (Nat.le_of_ble_eq_true rfl) (Nat.le_of_ble_eq_true rfl)
  refine j_ite (fun q1_2 => ?_) (fun q1_2 => ?_)
  · refine j_tin 44 C dX5_refuse_1 q1_2 (by decide) (by decide) rfl (by decide) ?_
    exact j_throw C hT ht hlocks th5_295_297 dX5_refuse_44 dX5_refuse_47 dX5_refuse_48 dX5_refuse_51 ⟨Nat.le_of_ble_eq_true rfl, Nat.le_of_ble_eq_true rfl, Nat.le_of_ble_eq_true rfl, Nat.le_of_ble_eq_true rfl⟩ (Nat.le_of_ble_eq_true rfl) (Nat.le_of_ble_eq_true rfl)
  refine j_tout 52 C dX5_refuse_1 (by have h0 := lv_neT q1_0 (a := 1) (by decide); have h1 := lv_neT q1_1 (a := 2) (by decide); have h2 := lv_neT q1_2 (a := 3) (by decide); omega) (by decide) ?_
  exact j_xvret C hr hlocks dX5_refuse_52 (Nat.le_of_ble_eq_true rfl) (Nat.le_of_ble_eq_true rfl)
set_option maxHeartbeats 4000000 in
set_option maxRecDepth 100000 in
theorem con5_addAdvertisement (N : Nat) (x1 : Int32) (x2 : Int32) (x3 : Int32) (x4 : Int32) (x5 : Int32) (x6 : Int32) : CoXI yX5_addAdvertisement cX5_addAdvertisement 8 .int rm5_addAdvertisement (fun E => [.ref (ea E 0), .int x1, .int x2, .int x3, .int x4, .int x5, .int x6]) (f5_addAdvertisement N x1 x2 x3 x4 x5 x6) := by
  refine coXI_of (L := fun E => [(0, .ref (ea E 0)), (1, .int x1), (2, .int x2), (3, .int x3), (4, .int x4), (5, .int x5), (6, .int x6)]) (by decide) (fun _ => Nat.le_of_ble_eq_true rfl) (fun _ => rfl) ?_
  intro l E σ p e s m args below meth c C hr hlocks hT ht
  unfold f5_addAdvertisement
  refine j_aload_n 0 C dX5_addAdvertisement_0 rfl rfl ?_
  refine j_get 0 C fl5_20 (by decide) (ct_0 E _) rfl dX5_addAdvertisement_1 ?_
  refine j_iload_n 1 C dX5_addAdvertisement_4 rfl rfl ?_
  refine j_iload_n 2 C dX5_addAdvertisement_5 rfl rfl ?_
  refine j_iload_n 3 C dX5_addAdvertisement_6 rfl rfl ?_
  refine j_iload 4 C dX5_addAdvertisement_7 rfl ?_
  refine j_iload 5 C dX5_addAdvertisement_9 rfl ?_
  refine j_iload 6 C dX5_addAdvertisement_11 rfl ?_
  refine j_callVI [.int x1, .int x2, .int x3, .int x4, .int x5, .int x6] (con1_faultOfAdvertisement N 1 x1 x2 x3 x4 x5 x6 ⟨by decide, by decide⟩) C mi1_faultOfAdvertisement mv1_faultOfAdvertisement lk5_54 (E_lt ⟨by decide, by decide⟩) (ct_E E ⟨by decide, by decide⟩ _) rfl rfl rfl ⟨Nat.le_of_ble_eq_true rfl, Nat.le_of_ble_eq_true rfl, Nat.le_of_ble_eq_true rfl, Nat.le_of_ble_eq_true rfl, Nat.le_of_ble_eq_true rfl⟩ dX5_addAdvertisement_13 (fun r13 σ13 => ?_)
  refine j_callXSV [.int r13] (con5_refuse N r13) C hT ht hlocks mi5_refuse ms5_refuse lk5_58 rfl rfl ⟨Nat.le_of_ble_eq_true rfl, Nat.le_of_ble_eq_true rfl, Nat.le_of_ble_eq_true rfl, Nat.le_of_ble_eq_true rfl, Nat.le_of_ble_eq_true rfl⟩ (Nat.le_of_ble_eq_true rfl) (Nat.le_of_ble_eq_true rfl) dX5_addAdvertisement_16 (fun σ16 => ?_)
  refine j_aload_n 0 C dX5_addAdvertisement_19 rfl rfl ?_
  refine j_get 4 C fl5_30 (by decide) (ct_0 E _) rfl dX5_addAdvertisement_20 ?_
  refine j_aload_n 0 C dX5_addAdvertisement_23 rfl rfl ?_
  refine j_get 0 C fl5_20 (by decide) (ct_0 E _) rfl dX5_addAdvertisement_24 ?_
  refine j_callVV [.ref (ea E 1)] (con2_remember N 1 ⟨by decide, by decide⟩) C mi2_remember mv2_remember lk5_62 (by decide) (ct_74 E _) rfl rfl rfl ⟨Nat.le_of_ble_eq_true rfl, Nat.le_of_ble_eq_true rfl, Nat.le_of_ble_eq_true rfl, Nat.le_of_ble_eq_true rfl, Nat.le_of_ble_eq_true rfl⟩ dX5_addAdvertisement_27 (fun σ27 => ?_)
  refine j_aload_n 0 C dX5_addAdvertisement_30 rfl rfl ?_
  refine j_get 0 C fl5_20 (by decide) (ct_0 E _) rfl dX5_addAdvertisement_31 ?_
  refine j_iload_n 1 C dX5_addAdvertisement_34 rfl rfl ?_
  refine j_iload_n 2 C dX5_addAdvertisement_35 rfl rfl ?_
  refine j_iload_n 3 C dX5_addAdvertisement_36 rfl rfl ?_
  refine j_iload 4 C dX5_addAdvertisement_37 rfl ?_
  refine j_iload 5 C dX5_addAdvertisement_39 rfl ?_
  refine j_iload 6 C dX5_addAdvertisement_41 rfl ?_
  refine j_callVI [.int x1, .int x2, .int x3, .int x4, .int x5, .int x6] (con1_putAdvertisement N 1 x1 x2 x3 x4 x5 x6 ⟨by decide, by decide⟩) C mi1_putAdvertisement mv1_putAdvertisement lk5_66 (E_lt ⟨by decide, by decide⟩) (ct_E E ⟨by decide, by decide⟩ _) rfl rfl rfl ⟨Nat.le_of_ble_eq_true rfl, Nat.le_of_ble_eq_true rfl, Nat.le_of_ble_eq_true rfl, Nat.le_of_ble_eq_true rfl, Nat.le_of_ble_eq_true rfl⟩ dX5_addAdvertisement_43 (fun r43 σ43 => ?_)
  refine j_istore [(7, .int r43), (0, .ref (ea E 0)), (1, .int x1), (2, .int x2), (3, .int x3), (4, .int x4), (5, .int x5), (6, .int x6)] C dX5_addAdvertisement_46 (by decide) rfl ?_
  refine j_aload_n 1 C dX5_addAdvertisement_48 rfl rfl ?_
  refine j_get 1 C fl5_12 (by decide) (ct_0 E _) rfl dX5_addAdvertisement_49 ?_
  refine j_callVV [] (con3_layOut N 56 (Or.inl rfl)) C mi3_layOut mv3_layOut lk5_69 (P_lt (Or.inl rfl)) (ct_P E (Or.inl rfl) _) rfl rfl rfl ⟨Nat.le_of_ble_eq_true rfl, Nat.le_of_ble_eq_true rfl, Nat.le_of_ble_eq_true rfl, Nat.le_of_ble_eq_true rfl, Nat.le_of_ble_eq_true rfl⟩ dX5_addAdvertisement_52 (fun σ52 => ?_)
  refine j_iload 0 C dX5_addAdvertisement_55 rfl ?_
  exact j_xiret C hr hlocks rfl dX5_addAdvertisement_57 (Nat.le_of_ble_eq_true rfl) (Nat.le_of_ble_eq_true rfl)
set_option maxHeartbeats 4000000 in
set_option maxRecDepth 100000 in
theorem con5_addStory (N : Nat) (x1 : Int32) (x2 : Int32) (x3 : Int32) (x4 : Int32) (x5 : Int32) : CoXI yX5_addStory cX5_addStory 7 .int rm5_addStory (fun E => [.ref (ea E 0), .int x1, .int x2, .int x3, .int x4, .int x5]) (f5_addStory N x1 x2 x3 x4 x5) := by
  refine coXI_of (L := fun E => [(0, .ref (ea E 0)), (1, .int x1), (2, .int x2), (3, .int x3), (4, .int x4), (5, .int x5)]) (by decide) (fun _ => Nat.le_of_ble_eq_true rfl) (fun _ => rfl) ?_
  intro l E σ p e s m args below meth c C hr hlocks hT ht
  unfold f5_addStory
  refine j_aload_n 0 C dX5_addStory_0 rfl rfl ?_
  refine j_get 0 C fl5_20 (by decide) (ct_0 E _) rfl dX5_addStory_1 ?_
  refine j_iload_n 1 C dX5_addStory_4 rfl rfl ?_
  refine j_iload_n 2 C dX5_addStory_5 rfl rfl ?_
  refine j_iload_n 3 C dX5_addStory_6 rfl rfl ?_
  refine j_iload 4 C dX5_addStory_7 rfl ?_
  refine j_iload 5 C dX5_addStory_9 rfl ?_
  refine j_callVI [.int x1, .int x2, .int x3, .int x4, .int x5] (con1_faultOfStory N 1 x1 x2 x3 x4 x5 ⟨by decide, by decide⟩) C mi1_faultOfStory mv1_faultOfStory lk5_72 (E_lt ⟨by decide, by decide⟩) (ct_E E ⟨by decide, by decide⟩ _) rfl rfl rfl ⟨Nat.le_of_ble_eq_true rfl, Nat.le_of_ble_eq_true rfl, Nat.le_of_ble_eq_true rfl, Nat.le_of_ble_eq_true rfl, Nat.le_of_ble_eq_true rfl⟩ dX5_addStory_11 (fun r11 σ11 => ?_)
  refine j_callXSV [.int r11] (con5_refuse N r11) C hT ht hlocks mi5_refuse ms5_refuse lk5_58 rfl rfl ⟨Nat.le_of_ble_eq_true rfl, Nat.le_of_ble_eq_true rfl, Nat.le_of_ble_eq_true rfl, Nat.le_of_ble_eq_true rfl, Nat.le_of_ble_eq_true rfl⟩ (Nat.le_of_ble_eq_true rfl) (Nat.le_of_ble_eq_true rfl) dX5_addStory_14 (fun σ14 => ?_)
  refine j_aload_n 0 C dX5_addStory_17 rfl rfl ?_
  refine j_get 4 C fl5_30 (by decide) (ct_0 E _) rfl dX5_addStory_18 ?_
  refine j_aload_n 0 C dX5_addStory_21 rfl rfl ?_
  refine j_get 0 C fl5_20 (by decide) (ct_0 E _) rfl dX5_addStory_22 ?_
  refine j_callVV [.ref (ea E 1)] (con2_remember N 1 ⟨by decide, by decide⟩) C mi2_remember mv2_remember lk5_62 (by decide) (ct_74 E _) rfl rfl rfl ⟨Nat.le_of_ble_eq_true rfl, Nat.le_of_ble_eq_true rfl, Nat.le_of_ble_eq_true rfl, Nat.le_of_ble_eq_true rfl, Nat.le_of_ble_eq_true rfl⟩ dX5_addStory_25 (fun σ25 => ?_)
  refine j_aload_n 0 C dX5_addStory_28 rfl rfl ?_
  refine j_get 0 C fl5_20 (by decide) (ct_0 E _) rfl dX5_addStory_29 ?_
  refine j_iload_n 1 C dX5_addStory_32 rfl rfl ?_
  refine j_iload_n 2 C dX5_addStory_33 rfl rfl ?_
  refine j_iload_n 3 C dX5_addStory_34 rfl rfl ?_
  refine j_iload 4 C dX5_addStory_35 rfl ?_
  refine j_iload 5 C dX5_addStory_37 rfl ?_
  refine j_callVI [.int x1, .int x2, .int x3, .int x4, .int x5] (con1_putStory N 1 x1 x2 x3 x4 x5 ⟨by decide, by decide⟩) C mi1_putStory mv1_putStory lk5_76 (E_lt ⟨by decide, by decide⟩) (ct_E E ⟨by decide, by decide⟩ _) rfl rfl rfl ⟨Nat.le_of_ble_eq_true rfl, Nat.le_of_ble_eq_true rfl, Nat.le_of_ble_eq_true rfl, Nat.le_of_ble_eq_true rfl, Nat.le_of_ble_eq_true rfl⟩ dX5_addStory_39 (fun r39 σ39 => ?_)
  refine j_istore [(6, .int r39), (0, .ref (ea E 0)), (1, .int x1), (2, .int x2), (3, .int x3), (4, .int x4), (5, .int x5)] C dX5_addStory_42 (by decide) rfl ?_
  refine j_aload_n 1 C dX5_addStory_44 rfl rfl ?_
  refine j_get 1 C fl5_12 (by decide) (ct_0 E _) rfl dX5_addStory_45 ?_
  refine j_callVV [] (con3_layOut N 56 (Or.inl rfl)) C mi3_layOut mv3_layOut lk5_69 (P_lt (Or.inl rfl)) (ct_P E (Or.inl rfl) _) rfl rfl rfl ⟨Nat.le_of_ble_eq_true rfl, Nat.le_of_ble_eq_true rfl, Nat.le_of_ble_eq_true rfl, Nat.le_of_ble_eq_true rfl, Nat.le_of_ble_eq_true rfl⟩ dX5_addStory_48 (fun σ48 => ?_)
  refine j_iload 0 C dX5_addStory_51 rfl ?_
  exact j_xiret C hr hlocks rfl dX5_addStory_53 (Nat.le_of_ble_eq_true rfl) (Nat.le_of_ble_eq_true rfl)
set_option maxHeartbeats 4000000 in
set_option maxRecDepth 100000 in
theorem con5_setPhoto (N : Nat) (x1 : Int32) (x2 : Int32) (x3 : Int32) : CoXI yX5_setPhoto cX5_setPhoto 5 .int rm5_setPhoto (fun E => [.ref (ea E 0), .int x1, .int x2, .int x3]) (f5_setPhoto N x1 x2 x3) := by
  refine coXI_of (L := fun E => [(0, .ref (ea E 0)), (1, .int x1), (2, .int x2), (3, .int x3)]) (by decide) (fun _ => Nat.le_of_ble_eq_true rfl) (fun _ => rfl) ?_
  intro l E σ p e s m args below meth c C hr hlocks hT ht
  unfold f5_setPhoto
  refine j_aload_n 0 C dX5_setPhoto_0 rfl rfl ?_
  refine j_get 0 C fl5_20 (by decide) (ct_0 E _) rfl dX5_setPhoto_1 ?_
  refine j_iload_n 1 C dX5_setPhoto_4 rfl rfl ?_
  refine j_iload_n 2 C dX5_setPhoto_5 rfl rfl ?_
  refine j_iload_n 3 C dX5_setPhoto_6 rfl rfl ?_
  refine j_callVI [.int x1, .int x2, .int x3] (con1_faultOfPhoto N 1 x1 x2 x3 ⟨by decide, by decide⟩) C mi1_faultOfPhoto mv1_faultOfPhoto lk5_79 (E_lt ⟨by decide, by decide⟩) (ct_E E ⟨by decide, by decide⟩ _) rfl rfl rfl ⟨Nat.le_of_ble_eq_true rfl, Nat.le_of_ble_eq_true rfl, Nat.le_of_ble_eq_true rfl, Nat.le_of_ble_eq_true rfl, Nat.le_of_ble_eq_true rfl⟩ dX5_setPhoto_7 (fun r7 σ7 => ?_)
  refine j_callXSV [.int r7] (con5_refuse N r7) C hT ht hlocks mi5_refuse ms5_refuse lk5_58 rfl rfl ⟨Nat.le_of_ble_eq_true rfl, Nat.le_of_ble_eq_true rfl, Nat.le_of_ble_eq_true rfl, Nat.le_of_ble_eq_true rfl, Nat.le_of_ble_eq_true rfl⟩ (Nat.le_of_ble_eq_true rfl) (Nat.le_of_ble_eq_true rfl) dX5_setPhoto_10 (fun σ10 => ?_)
  refine j_aload_n 0 C dX5_setPhoto_13 rfl rfl ?_
  refine j_get 4 C fl5_30 (by decide) (ct_0 E _) rfl dX5_setPhoto_14 ?_
  refine j_aload_n 0 C dX5_setPhoto_17 rfl rfl ?_
  refine j_get 0 C fl5_20 (by decide) (ct_0 E _) rfl dX5_setPhoto_18 ?_
  refine j_callVV [.ref (ea E 1)] (con2_remember N 1 ⟨by decide, by decide⟩) C mi2_remember mv2_remember lk5_62 (by decide) (ct_74 E _) rfl rfl rfl ⟨Nat.le_of_ble_eq_true rfl, Nat.le_of_ble_eq_true rfl, Nat.le_of_ble_eq_true rfl, Nat.le_of_ble_eq_true rfl, Nat.le_of_ble_eq_true rfl⟩ dX5_setPhoto_21 (fun σ21 => ?_)
  refine j_aload_n 0 C dX5_setPhoto_24 rfl rfl ?_
  refine j_get 0 C fl5_20 (by decide) (ct_0 E _) rfl dX5_setPhoto_25 ?_
  refine j_iload_n 1 C dX5_setPhoto_28 rfl rfl ?_
  refine j_iconst (v := 5) 5 C dX5_setPhoto_29 (by decide) ?_
  refine j_callVI [.int x1, .int 5] (con1_storyNumber N 1 x1 5 ⟨by decide, by decide⟩) C mi1_storyNumber mv1_storyNumber lk5_83 (E_lt ⟨by decide, by decide⟩) (ct_E E ⟨by decide, by decide⟩ _) rfl rfl rfl ⟨Nat.le_of_ble_eq_true rfl, Nat.le_of_ble_eq_true rfl, Nat.le_of_ble_eq_true rfl, Nat.le_of_ble_eq_true rfl, Nat.le_of_ble_eq_true rfl⟩ dX5_setPhoto_30 (fun r30 σ30 => ?_)
  refine j_istore [(4, .int r30), (0, .ref (ea E 0)), (1, .int x1), (2, .int x2), (3, .int x3)] C dX5_setPhoto_33 (by decide) rfl ?_
  refine j_aload_n 1 C dX5_setPhoto_35 rfl rfl ?_
  refine j_get 0 C fl5_20 (by decide) (ct_0 E _) rfl dX5_setPhoto_36 ?_
  refine j_iload_n 2 C dX5_setPhoto_39 rfl rfl ?_
  refine j_iload_n 3 C dX5_setPhoto_40 rfl rfl ?_
  refine j_iload_n 4 C dX5_setPhoto_41 rfl rfl ?_
  refine j_callVV [.int x1, .int x2, .int x3] (con1_putPhoto N 1 x1 x2 x3 ⟨by decide, by decide⟩) C mi1_putPhoto mv1_putPhoto lk5_87 (E_lt ⟨by decide, by decide⟩) (ct_E E ⟨by decide, by decide⟩ _) rfl rfl rfl ⟨Nat.le_of_ble_eq_true rfl, Nat.le_of_ble_eq_true rfl, Nat.le_of_ble_eq_true rfl, Nat.le_of_ble_eq_true rfl, Nat.le_of_ble_eq_true rfl⟩ dX5_setPhoto_42 (fun σ42 => ?_)
  refine j_aload_n 1 C dX5_setPhoto_45 rfl rfl ?_
  refine j_get 1 C fl5_12 (by decide) (ct_0 E _) rfl dX5_setPhoto_46 ?_
  refine j_callVV [] (con3_layOut N 56 (Or.inl rfl)) C mi3_layOut mv3_layOut lk5_69 (P_lt (Or.inl rfl)) (ct_P E (Or.inl rfl) _) rfl rfl rfl ⟨Nat.le_of_ble_eq_true rfl, Nat.le_of_ble_eq_true rfl, Nat.le_of_ble_eq_true rfl, Nat.le_of_ble_eq_true rfl, Nat.le_of_ble_eq_true rfl⟩ dX5_setPhoto_49 (fun σ49 => ?_)
  refine j_iload 0 C dX5_setPhoto_52 rfl ?_
  exact j_xiret C hr hlocks rfl dX5_setPhoto_54 (Nat.le_of_ble_eq_true rfl) (Nat.le_of_ble_eq_true rfl)
set_option maxHeartbeats 4000000 in
set_option maxRecDepth 100000 in
theorem con5_needStory (N : Nat) (x1 : Int32) : CoXV yX5_needStory cX5_needStory 2 rm5_needStory (fun E => [.ref (ea E 0), .int x1]) (f5_needStory N x1) := by
  refine coXV_of (L := fun E => [(0, .ref (ea E 0)), (1, .int x1)]) (by decide) (fun _ => Nat.le_of_ble_eq_true rfl) (fun _ => rfl) ?_
  intro l E σ p e s m args below meth c C hr hlocks hT ht
  unfold f5_needStory
  refine j_aload_n 0 C dX5_needStory_0 rfl rfl ?_
  refine j_get 0 C fl5_20 (by decide) (ct_0 E _) rfl dX5_needStory_1 ?_
  refine j_iload_n 1 C dX5_needStory_4 rfl rfl ?_
  refine j_callVI [.int x1] (con1_hasStory N 1 x1 ⟨by decide, by decide⟩) C mi1_hasStory mv1_hasStory lk5_255 (E_lt ⟨by decide, by decide⟩) (ct_E E ⟨by decide, by decide⟩ _) rfl rfl rfl ⟨Nat.le_of_ble_eq_true rfl, Nat.le_of_ble_eq_true rfl, Nat.le_of_ble_eq_true rfl, Nat.le_of_ble_eq_true rfl, Nat.le_of_ble_eq_true rfl⟩ dX5_needStory_5 (fun r5 σ5 => ?_)
  refine j_zne 19 C dX5_needStory_8 (by decide) ?_ ?_
  · exact j_xvret C hr hlocks dX5_needStory_19 (Nat.le_of_ble_eq_true rfl) (Nat.le_of_ble_eq_true rfl)
  · exact j_throw C hT ht hlocks th5_169_171 dX5_needStory_11 dX5_needStory_14 dX5_needStory_15 dX5_needStory_18 ⟨Nat.le_of_ble_eq_true rfl, Nat.le_of_ble_eq_true rfl, Nat.le_of_ble_eq_true rfl, Nat.le_of_ble_eq_true rfl⟩ (Nat.le_of_ble_eq_true rfl) (Nat.le_of_ble_eq_true rfl)
set_option maxHeartbeats 4000000 in
set_option maxRecDepth 100000 in
theorem con5_setLate (N : Nat) (x1 : Int32) (x2 : Int32) : CoXI yX5_setLate cX5_setLate 4 .boolean rm5_setLate (fun E => [.ref (ea E 0), .int x1, .int x2]) (f5_setLate N x1 x2) := by
  refine coXI_of (L := fun E => [(0, .ref (ea E 0)), (1, .int x1), (2, .int x2)]) (by decide) (fun _ => Nat.le_of_ble_eq_true rfl) (fun _ => rfl) ?_
  intro l E σ p e s m args below meth c C hr hlocks hT ht
  unfold f5_setLate
  refine j_aload_n 0 C dX5_setLate_0 rfl rfl ?_
  refine j_iload_n 1 C dX5_setLate_1 rfl rfl ?_
  refine j_callXVV [.int x1] (con5_needStory N x1) C hT ht hlocks mi5_needStory mv5_needStory lk5_91 (by decide) (ct_0 E _) rfl rfl rfl ⟨Nat.le_of_ble_eq_true rfl, Nat.le_of_ble_eq_true rfl, Nat.le_of_ble_eq_true rfl, Nat.le_of_ble_eq_true rfl, Nat.le_of_ble_eq_true rfl⟩ (Nat.le_of_ble_eq_true rfl) (Nat.le_of_ble_eq_true rfl) dX5_setLate_2 (fun σ2 => ?_)
  refine j_aload_n 0 C dX5_setLate_5 rfl rfl ?_
  refine j_get 4 C fl5_30 (by decide) (ct_0 E _) rfl dX5_setLate_6 ?_
  refine j_aload_n 0 C dX5_setLate_9 rfl rfl ?_
  refine j_get 0 C fl5_20 (by decide) (ct_0 E _) rfl dX5_setLate_10 ?_
  refine j_callVV [.ref (ea E 1)] (con2_remember N 1 ⟨by decide, by decide⟩) C mi2_remember mv2_remember lk5_62 (by decide) (ct_74 E _) rfl rfl rfl ⟨Nat.le_of_ble_eq_true rfl, Nat.le_of_ble_eq_true rfl, Nat.le_of_ble_eq_true rfl, Nat.le_of_ble_eq_true rfl, Nat.le_of_ble_eq_true rfl⟩ dX5_setLate_13 (fun σ13 => ?_)
  refine j_aload_n 0 C dX5_setLate_16 rfl rfl ?_
  refine j_get 0 C fl5_20 (by decide) (ct_0 E _) rfl dX5_setLate_17 ?_
  refine j_iload_n 1 C dX5_setLate_20 rfl rfl ?_
  refine j_callVI [.int x1] (con1_isLate N 1 x1 ⟨by decide, by decide⟩) C mi1_isLate mv1_isLate lk5_94 (E_lt ⟨by decide, by decide⟩) (ct_E E ⟨by decide, by decide⟩ _) rfl rfl rfl ⟨Nat.le_of_ble_eq_true rfl, Nat.le_of_ble_eq_true rfl, Nat.le_of_ble_eq_true rfl, Nat.le_of_ble_eq_true rfl, Nat.le_of_ble_eq_true rfl⟩ dX5_setLate_21 (fun r21 σ21 => ?_)
  refine j_istore_n [(3, .int r21), (0, .ref (ea E 0)), (1, .int x1), (2, .int x2)] C dX5_setLate_24 rfl (by decide) rfl ?_
  refine j_aload_n 1 C dX5_setLate_25 rfl rfl ?_
  refine j_get 0 C fl5_20 (by decide) (ct_0 E _) rfl dX5_setLate_26 ?_
  refine j_iload_n 2 C dX5_setLate_29 rfl rfl ?_
  refine j_iload_n 3 C dX5_setLate_30 rfl rfl ?_
  refine j_callVV [.int x1, .int x2] (con1_putLate N 1 x1 x2 ⟨by decide, by decide⟩) C mi1_putLate mv1_putLate lk5_98 (E_lt ⟨by decide, by decide⟩) (ct_E E ⟨by decide, by decide⟩ _) rfl rfl rfl ⟨Nat.le_of_ble_eq_true rfl, Nat.le_of_ble_eq_true rfl, Nat.le_of_ble_eq_true rfl, Nat.le_of_ble_eq_true rfl, Nat.le_of_ble_eq_true rfl⟩ dX5_setLate_31 (fun σ31 => ?_)
  refine j_aload_n 1 C dX5_setLate_34 rfl rfl ?_
  refine j_get 1 C fl5_12 (by decide) (ct_0 E _) rfl dX5_setLate_35 ?_
  refine j_callVV [] (con3_layOut N 56 (Or.inl rfl)) C mi3_layOut mv3_layOut lk5_69 (P_lt (Or.inl rfl)) (ct_P E (Or.inl rfl) _) rfl rfl rfl ⟨Nat.le_of_ble_eq_true rfl, Nat.le_of_ble_eq_true rfl, Nat.le_of_ble_eq_true rfl, Nat.le_of_ble_eq_true rfl, Nat.le_of_ble_eq_true rfl⟩ dX5_setLate_38 (fun σ38 => ?_)
  refine j_iload_n 0 C dX5_setLate_41 rfl rfl ?_
  exact j_gd (fun hb => j_xiret C hr hlocks (nrB hb) dX5_setLate_42 (Nat.le_of_ble_eq_true rfl) (Nat.le_of_ble_eq_true rfl))
set_option maxHeartbeats 4000000 in
set_option maxRecDepth 100000 in
theorem con5_change (N : Nat) (x1 : Int32) (x2 : Int32) (x3 : Int32) : CoXI yX5_change cX5_change 5 .int rm5_change (fun E => [.ref (ea E 0), .int x1, .int x2, .int x3]) (f5_change N x1 x2 x3) := by
  refine coXI_of (L := fun E => [(0, .ref (ea E 0)), (1, .int x1), (2, .int x2), (3, .int x3)]) (by decide) (fun _ => Nat.le_of_ble_eq_true rfl) (fun _ => rfl) ?_
  intro l E σ p e s m args below meth c C hr hlocks hT ht
  unfold f5_change
  refine j_aload_n 0 C dX5_change_0 rfl rfl ?_
  refine j_iload_n 1 C dX5_change_1 rfl rfl ?_
  refine j_callXVV [.int x1] (con5_needStory N x1) C hT ht hlocks mi5_needStory mv5_needStory lk5_91 (by decide) (ct_0 E _) rfl rfl rfl ⟨Nat.le_of_ble_eq_true rfl, Nat.le_of_ble_eq_true rfl, Nat.le_of_ble_eq_true rfl, Nat.le_of_ble_eq_true rfl, Nat.le_of_ble_eq_true rfl⟩ (Nat.le_of_ble_eq_true rfl) (Nat.le_of_ble_eq_true rfl) dX5_change_2 (fun σ2 => ?_)
  refine j_iload_n 2 C dX5_change_5 rfl rfl ?_
  refine j_iload_n 3 C dX5_change_6 rfl rfl ?_
  refine j_callSI [.int x2, .int x3] (con5_isInRange N x2 x3) C mi5_isInRange ms5_isInRange lk5_102 rfl rfl ⟨Nat.le_of_ble_eq_true rfl, Nat.le_of_ble_eq_true rfl, Nat.le_of_ble_eq_true rfl, Nat.le_of_ble_eq_true rfl, Nat.le_of_ble_eq_true rfl⟩ dX5_change_7 (fun r7 σ7 => ?_)
  refine j_zne 21 C dX5_change_10 (by decide) ?_ ?_
  · refine j_aload_n 0 C dX5_change_21 rfl rfl ?_
    refine j_get 4 C fl5_30 (by decide) (ct_0 E _) rfl dX5_change_22 ?_
    refine j_aload_n 0 C dX5_change_25 rfl rfl ?_
    refine j_get 0 C fl5_20 (by decide) (ct_0 E _) rfl dX5_change_26 ?_
    refine j_callVV [.ref (ea E 1)] (con2_remember N 1 ⟨by decide, by decide⟩) C mi2_remember mv2_remember lk5_62 (by decide) (ct_74 E _) rfl rfl rfl ⟨Nat.le_of_ble_eq_true rfl, Nat.le_of_ble_eq_true rfl, Nat.le_of_ble_eq_true rfl, Nat.le_of_ble_eq_true rfl, Nat.le_of_ble_eq_true rfl⟩ dX5_change_29 (fun σ29 => ?_)
    refine j_aload_n 0 C dX5_change_32 rfl rfl ?_
    refine j_get 0 C fl5_20 (by decide) (ct_0 E _) rfl dX5_change_33 ?_
    refine j_iload_n 1 C dX5_change_36 rfl rfl ?_
    refine j_iload_n 2 C dX5_change_37 rfl rfl ?_
    refine j_callVI [.int x1, .int x2] (con1_storyNumber N 1 x1 x2 ⟨by decide, by decide⟩) C mi1_storyNumber mv1_storyNumber lk5_83 (E_lt ⟨by decide, by decide⟩) (ct_E E ⟨by decide, by decide⟩ _) rfl rfl rfl ⟨Nat.le_of_ble_eq_true rfl, Nat.le_of_ble_eq_true rfl, Nat.le_of_ble_eq_true rfl, Nat.le_of_ble_eq_true rfl, Nat.le_of_ble_eq_true rfl⟩ dX5_change_38 (fun r38 σ38 => ?_)
    refine j_istore [(4, .int r38), (0, .ref (ea E 0)), (1, .int x1), (2, .int x2), (3, .int x3)] C dX5_change_41 (by decide) rfl ?_
    refine j_aload_n 1 C dX5_change_43 rfl rfl ?_
    refine j_get 0 C fl5_20 (by decide) (ct_0 E _) rfl dX5_change_44 ?_
    refine j_iload_n 2 C dX5_change_47 rfl rfl ?_
    refine j_iload_n 3 C dX5_change_48 rfl rfl ?_
    refine j_iload_n 4 C dX5_change_49 rfl rfl ?_
    refine j_callVV [.int x1, .int x2, .int x3] (con1_putStoryNumber N 1 x1 x2 x3 ⟨by decide, by decide⟩) C mi1_putStoryNumber mv1_putStoryNumber lk5_109 (E_lt ⟨by decide, by decide⟩) (ct_E E ⟨by decide, by decide⟩ _) rfl rfl rfl ⟨Nat.le_of_ble_eq_true rfl, Nat.le_of_ble_eq_true rfl, Nat.le_of_ble_eq_true rfl, Nat.le_of_ble_eq_true rfl, Nat.le_of_ble_eq_true rfl⟩ dX5_change_50 (fun σ50 => ?_)
    refine j_aload_n 1 C dX5_change_53 rfl rfl ?_
    refine j_get 1 C fl5_12 (by decide) (ct_0 E _) rfl dX5_change_54 ?_
    refine j_callVV [] (con3_layOut N 56 (Or.inl rfl)) C mi3_layOut mv3_layOut lk5_69 (P_lt (Or.inl rfl)) (ct_P E (Or.inl rfl) _) rfl rfl rfl ⟨Nat.le_of_ble_eq_true rfl, Nat.le_of_ble_eq_true rfl, Nat.le_of_ble_eq_true rfl, Nat.le_of_ble_eq_true rfl, Nat.le_of_ble_eq_true rfl⟩ dX5_change_57 (fun σ57 => ?_)
    refine j_iload 0 C dX5_change_60 rfl ?_
    exact j_xiret C hr hlocks rfl dX5_change_62 (Nat.le_of_ble_eq_true rfl) (Nat.le_of_ble_eq_true rfl)
  · exact j_throw C hT ht hlocks th5_106_108 dX5_change_13 dX5_change_16 dX5_change_17 dX5_change_20 ⟨Nat.le_of_ble_eq_true rfl, Nat.le_of_ble_eq_true rfl, Nat.le_of_ble_eq_true rfl, Nat.le_of_ble_eq_true rfl⟩ (Nat.le_of_ble_eq_true rfl) (Nat.le_of_ble_eq_true rfl)
set_option maxHeartbeats 4000000 in
set_option maxRecDepth 100000 in
theorem con5_needAdvertisement (N : Nat) (x1 : Int32) : CoXV yX5_needAdvertisement cX5_needAdvertisement 2 rm5_needAdvertisement (fun E => [.ref (ea E 0), .int x1]) (f5_needAdvertisement N x1) := by
  refine coXV_of (L := fun E => [(0, .ref (ea E 0)), (1, .int x1)]) (by decide) (fun _ => Nat.le_of_ble_eq_true rfl) (fun _ => rfl) ?_
  intro l E σ p e s m args below meth c C hr hlocks hT ht
  unfold f5_needAdvertisement
  refine j_aload_n 0 C dX5_needAdvertisement_0 rfl rfl ?_
  refine j_get 0 C fl5_20 (by decide) (ct_0 E _) rfl dX5_needAdvertisement_1 ?_
  refine j_iload_n 1 C dX5_needAdvertisement_4 rfl rfl ?_
  refine j_callVI [.int x1] (con1_hasAdvertisement N 1 x1 ⟨by decide, by decide⟩) C mi1_hasAdvertisement mv1_hasAdvertisement lk5_358 (E_lt ⟨by decide, by decide⟩) (ct_E E ⟨by decide, by decide⟩ _) rfl rfl rfl ⟨Nat.le_of_ble_eq_true rfl, Nat.le_of_ble_eq_true rfl, Nat.le_of_ble_eq_true rfl, Nat.le_of_ble_eq_true rfl, Nat.le_of_ble_eq_true rfl⟩ dX5_needAdvertisement_5 (fun r5 σ5 => ?_)
  refine j_zne 19 C dX5_needAdvertisement_8 (by decide) ?_ ?_
  · exact j_xvret C hr hlocks dX5_needAdvertisement_19 (Nat.le_of_ble_eq_true rfl) (Nat.le_of_ble_eq_true rfl)
  · exact j_throw C hT ht hlocks th5_169_171 dX5_needAdvertisement_11 dX5_needAdvertisement_14 dX5_needAdvertisement_15 dX5_needAdvertisement_18 ⟨Nat.le_of_ble_eq_true rfl, Nat.le_of_ble_eq_true rfl, Nat.le_of_ble_eq_true rfl, Nat.le_of_ble_eq_true rfl⟩ (Nat.le_of_ble_eq_true rfl) (Nat.le_of_ble_eq_true rfl)
set_option maxHeartbeats 4000000 in
set_option maxRecDepth 100000 in
theorem con5_needEntry (N : Nat) (x1 : Int32) (x2 : Int32) : CoXV yX5_needEntry cX5_needEntry 3 rm5_needEntry (fun E => [.ref (ea E 0), .int x1, .int x2]) (f5_needEntry N x1 x2) := by
  refine coXV_of (L := fun E => [(0, .ref (ea E 0)), (1, .int x1), (2, .int x2)]) (by decide) (fun _ => Nat.le_of_ble_eq_true rfl) (fun _ => rfl) ?_
  intro l E σ p e s m args below meth c C hr hlocks hT ht
  unfold f5_needEntry
  refine j_iload_n 1 C dX5_needEntry_0 rfl rfl ?_
  refine j_zeq 12 C dX5_needEntry_1 (by decide) ?_ ?_
  · refine j_aload_n 0 C dX5_needEntry_12 rfl rfl ?_
    refine j_iload_n 2 C dX5_needEntry_13 rfl rfl ?_
    refine j_callXVV [.int x2] (con5_needAdvertisement N x2) C hT ht hlocks mi5_needAdvertisement mv5_needAdvertisement lk5_145 (by decide) (ct_0 E _) rfl rfl rfl ⟨Nat.le_of_ble_eq_true rfl, Nat.le_of_ble_eq_true rfl, Nat.le_of_ble_eq_true rfl, Nat.le_of_ble_eq_true rfl, Nat.le_of_ble_eq_true rfl⟩ (Nat.le_of_ble_eq_true rfl) (Nat.le_of_ble_eq_true rfl) dX5_needEntry_14 (fun σ14 => ?_)
    exact j_xvret C hr hlocks dX5_needEntry_17 (Nat.le_of_ble_eq_true rfl) (Nat.le_of_ble_eq_true rfl)
  · refine j_aload_n 0 C dX5_needEntry_4 rfl rfl ?_
    refine j_iload_n 2 C dX5_needEntry_5 rfl rfl ?_
    refine j_callXVV [.int x2] (con5_needStory N x2) C hT ht hlocks mi5_needStory mv5_needStory lk5_91 (by decide) (ct_0 E _) rfl rfl rfl ⟨Nat.le_of_ble_eq_true rfl, Nat.le_of_ble_eq_true rfl, Nat.le_of_ble_eq_true rfl, Nat.le_of_ble_eq_true rfl, Nat.le_of_ble_eq_true rfl⟩ (Nat.le_of_ble_eq_true rfl) (Nat.le_of_ble_eq_true rfl) dX5_needEntry_6 (fun σ6 => ?_)
    refine j_goto 17 C dX5_needEntry_9 (by decide) ?_
    exact j_xvret C hr hlocks dX5_needEntry_17 (Nat.le_of_ble_eq_true rfl) (Nat.le_of_ble_eq_true rfl)
set_option maxHeartbeats 4000000 in
set_option maxRecDepth 100000 in
theorem con5_remove (N : Nat) (x1 : Int32) (x2 : Int32) : CoXI yX5_remove cX5_remove 3 .int rm5_remove (fun E => [.ref (ea E 0), .int x1, .int x2]) (f5_remove N x1 x2) := by
  refine coXI_of (L := fun E => [(0, .ref (ea E 0)), (1, .int x1), (2, .int x2)]) (by decide) (fun _ => Nat.le_of_ble_eq_true rfl) (fun _ => rfl) ?_
  intro l E σ p e s m args below meth c C hr hlocks hT ht
  have wJ40 : ∀ (σ : Hp), J E 3 p l e rm5_remove s m args below meth c (XI E below args s rm5_remove.cells rm5_remove.slots) (f5_remove_J40 N x1 x2 σ) 40 [(0, .ref (ea E 0)), (1, .int x1)] [] σ 1 6 := by
    intro σ
    unfold f5_remove_J40
    refine j_aload_n 0 C dX5_remove_40 rfl rfl ?_
    refine j_get 1 C fl5_12 (by decide) (ct_0 E _) rfl dX5_remove_41 ?_
    refine j_callVV [] (con3_layOut N 56 (Or.inl rfl)) C mi3_layOut mv3_layOut lk5_69 (P_lt (Or.inl rfl)) (ct_P E (Or.inl rfl) _) rfl rfl rfl ⟨Nat.le_of_ble_eq_true rfl, Nat.le_of_ble_eq_true rfl, Nat.le_of_ble_eq_true rfl, Nat.le_of_ble_eq_true rfl, Nat.le_of_ble_eq_true rfl⟩ dX5_remove_44 (fun σ44 => ?_)
    refine j_iload_n 1 C dX5_remove_47 rfl rfl ?_
    refine j_zeq 61 C dX5_remove_48 (by decide) ?_ ?_
    · refine j_aload_n 0 C dX5_remove_61 rfl rfl ?_
      refine j_get 0 C fl5_20 (by decide) (ct_0 E _) rfl dX5_remove_62 ?_
      refine j_callVI [] (con1_advertisementCount N 1 ⟨by decide, by decide⟩) C mi1_advertisementCount mv1_advertisementCount lk5_126 (E_lt ⟨by decide, by decide⟩) (ct_E E ⟨by decide, by decide⟩ _) rfl rfl rfl ⟨Nat.le_of_ble_eq_true rfl, Nat.le_of_ble_eq_true rfl, Nat.le_of_ble_eq_true rfl, Nat.le_of_ble_eq_true rfl, Nat.le_of_ble_eq_true rfl⟩ dX5_remove_65 (fun r65 σ65 => ?_)
      exact j_xiret C hr hlocks rfl dX5_remove_68 (Nat.le_of_ble_eq_true rfl) (Nat.le_of_ble_eq_true rfl)
    · refine j_aload_n 0 C dX5_remove_51 rfl rfl ?_
      refine j_get 0 C fl5_20 (by decide) (ct_0 E _) rfl dX5_remove_52 ?_
      refine j_callVI [] (con1_storyCount N 1 ⟨by decide, by decide⟩) C mi1_storyCount mv1_storyCount lk5_122 (E_lt ⟨by decide, by decide⟩) (ct_E E ⟨by decide, by decide⟩ _) rfl rfl rfl ⟨Nat.le_of_ble_eq_true rfl, Nat.le_of_ble_eq_true rfl, Nat.le_of_ble_eq_true rfl, Nat.le_of_ble_eq_true rfl, Nat.le_of_ble_eq_true rfl⟩ dX5_remove_55 (fun r55 σ55 => ?_)
      refine j_goto 68 C dX5_remove_58 (by decide) ?_
      exact j_xiret C hr hlocks rfl dX5_remove_68 (Nat.le_of_ble_eq_true rfl) (Nat.le_of_ble_eq_true rfl)
  unfold f5_remove
  refine j_aload_n 0 C dX5_remove_0 rfl rfl ?_
  refine j_iload_n 1 C dX5_remove_1 rfl rfl ?_
  refine j_iload_n 2 C dX5_remove_2 rfl rfl ?_
  refine j_callXVV [.int x1, .int x2] (con5_needEntry N x1 x2) C hT ht hlocks mi5_needEntry mv5_needEntry lk5_112 (by decide) (ct_0 E _) rfl rfl rfl ⟨Nat.le_of_ble_eq_true rfl, Nat.le_of_ble_eq_true rfl, Nat.le_of_ble_eq_true rfl, Nat.le_of_ble_eq_true rfl, Nat.le_of_ble_eq_true rfl⟩ (Nat.le_of_ble_eq_true rfl) (Nat.le_of_ble_eq_true rfl) dX5_remove_3 (fun σ3 => ?_)
  refine j_aload_n 0 C dX5_remove_6 rfl rfl ?_
  refine j_get 4 C fl5_30 (by decide) (ct_0 E _) rfl dX5_remove_7 ?_
  refine j_aload_n 0 C dX5_remove_10 rfl rfl ?_
  refine j_get 0 C fl5_20 (by decide) (ct_0 E _) rfl dX5_remove_11 ?_
  refine j_callVV [.ref (ea E 1)] (con2_remember N 1 ⟨by decide, by decide⟩) C mi2_remember mv2_remember lk5_62 (by decide) (ct_74 E _) rfl rfl rfl ⟨Nat.le_of_ble_eq_true rfl, Nat.le_of_ble_eq_true rfl, Nat.le_of_ble_eq_true rfl, Nat.le_of_ble_eq_true rfl, Nat.le_of_ble_eq_true rfl⟩ dX5_remove_14 (fun σ14 => ?_)
  refine j_iload_n 1 C dX5_remove_17 rfl rfl ?_
  refine j_zeq 32 C dX5_remove_18 (by decide) ?_ ?_
  · refine j_aload_n 0 C dX5_remove_32 rfl rfl ?_
    refine j_get 0 C fl5_20 (by decide) (ct_0 E _) rfl dX5_remove_33 ?_
    refine j_iload_n 2 C dX5_remove_36 rfl rfl ?_
    refine j_callVV [.int x2] (con1_dropAdvertisement N 1 x2 ⟨by decide, by decide⟩) C mi1_dropAdvertisement mv1_dropAdvertisement lk5_119 (E_lt ⟨by decide, by decide⟩) (ct_E E ⟨by decide, by decide⟩ _) rfl rfl rfl ⟨Nat.le_of_ble_eq_true rfl, Nat.le_of_ble_eq_true rfl, Nat.le_of_ble_eq_true rfl, Nat.le_of_ble_eq_true rfl, Nat.le_of_ble_eq_true rfl⟩ dX5_remove_37 (fun σ37 => ?_)
    exact j_sub [0, 1] rfl (wJ40 σ37)
  · refine j_aload_n 0 C dX5_remove_21 rfl rfl ?_
    refine j_get 0 C fl5_20 (by decide) (ct_0 E _) rfl dX5_remove_22 ?_
    refine j_iload_n 2 C dX5_remove_25 rfl rfl ?_
    refine j_callVV [.int x2] (con1_dropStory N 1 x2 ⟨by decide, by decide⟩) C mi1_dropStory mv1_dropStory lk5_116 (E_lt ⟨by decide, by decide⟩) (ct_E E ⟨by decide, by decide⟩ _) rfl rfl rfl ⟨Nat.le_of_ble_eq_true rfl, Nat.le_of_ble_eq_true rfl, Nat.le_of_ble_eq_true rfl, Nat.le_of_ble_eq_true rfl, Nat.le_of_ble_eq_true rfl⟩ dX5_remove_26 (fun σ26 => ?_)
    refine j_goto 40 C dX5_remove_29 (by decide) ?_
    exact j_sub [0, 1] rfl (wJ40 σ26)
set_option maxHeartbeats 4000000 in
set_option maxRecDepth 100000 in
theorem con5_story (N : Nat) (x1 : Int32) (x2 : Int32) : CoXI yX5_story cX5_story 3 .int rm5_story (fun E => [.ref (ea E 0), .int x1, .int x2]) (f5_story N x1 x2) := by
  refine coXI_of (L := fun E => [(0, .ref (ea E 0)), (1, .int x1), (2, .int x2)]) (by decide) (fun _ => Nat.le_of_ble_eq_true rfl) (fun _ => rfl) ?_
  intro l E σ p e s m args below meth c C hr hlocks hT ht
  have wJ25 : ∀ (σ : Hp), J E 3 p l e rm5_story s m args below meth c (XI E below args s rm5_story.cells rm5_story.slots) (f5_story_J25 N x1 x2 σ) 25 [(0, .ref (ea E 0)), (1, .int x1), (2, .int x2)] [] σ 1 6 := by
    intro σ
    unfold f5_story_J25
    refine j_iload_n 2 C dX5_story_25 rfl rfl ?_
    refine j_ite (fun q26_0 => ?_) (fun q26_0 => ?_)
    · refine j_tin 60 C dX5_story_26 q26_0 (by decide) (by decide) rfl (by decide) ?_
      refine j_aload_n 0 C dX5_story_60 rfl rfl ?_
      refine j_get 1 C fl5_12 (by decide) (ct_0 E _) rfl dX5_story_61 ?_
      refine j_iload_n 1 C dX5_story_64 rfl rfl ?_
      refine j_callVI [.int x1] (con3_rankOf N 56 x1 (Or.inl rfl)) C mi3_rankOf mv3_rankOf lk5_129 (P_lt (Or.inl rfl)) (ct_P E (Or.inl rfl) _) rfl rfl rfl ⟨Nat.le_of_ble_eq_true rfl, Nat.le_of_ble_eq_true rfl, Nat.le_of_ble_eq_true rfl, Nat.le_of_ble_eq_true rfl, Nat.le_of_ble_eq_true rfl⟩ dX5_story_65 (fun r65 σ65 => ?_)
      exact j_xiret C hr hlocks rfl dX5_story_68 (Nat.le_of_ble_eq_true rfl) (Nat.le_of_ble_eq_true rfl)
    refine j_ite (fun q26_1 => ?_) (fun q26_1 => ?_)
    · refine j_tin 69 C dX5_story_26 q26_1 (by decide) (by decide) rfl (by decide) ?_
      refine j_aload_n 0 C dX5_story_69 rfl rfl ?_
      refine j_get 1 C fl5_12 (by decide) (ct_0 E _) rfl dX5_story_70 ?_
      refine j_iload_n 1 C dX5_story_73 rfl rfl ?_
      refine j_callVI [.int x1] (con3_startPageOf N 56 x1 (Or.inl rfl)) C mi3_startPageOf mv3_startPageOf lk5_133 (P_lt (Or.inl rfl)) (ct_P E (Or.inl rfl) _) rfl rfl rfl ⟨Nat.le_of_ble_eq_true rfl, Nat.le_of_ble_eq_true rfl, Nat.le_of_ble_eq_true rfl, Nat.le_of_ble_eq_true rfl, Nat.le_of_ble_eq_true rfl⟩ dX5_story_74 (fun r74 σ74 => ?_)
      exact j_xiret C hr hlocks rfl dX5_story_77 (Nat.le_of_ble_eq_true rfl) (Nat.le_of_ble_eq_true rfl)
    refine j_ite (fun q26_2 => ?_) (fun q26_2 => ?_)
    · refine j_tin 78 C dX5_story_26 q26_2 (by decide) (by decide) rfl (by decide) ?_
      refine j_aload_n 0 C dX5_story_78 rfl rfl ?_
      refine j_get 1 C fl5_12 (by decide) (ct_0 E _) rfl dX5_story_79 ?_
      refine j_iload_n 1 C dX5_story_82 rfl rfl ?_
      refine j_callVI [.int x1] (con3_partCountOf N 56 x1 (Or.inl rfl)) C mi3_partCountOf mv3_partCountOf lk5_136 (P_lt (Or.inl rfl)) (ct_P E (Or.inl rfl) _) rfl rfl rfl ⟨Nat.le_of_ble_eq_true rfl, Nat.le_of_ble_eq_true rfl, Nat.le_of_ble_eq_true rfl, Nat.le_of_ble_eq_true rfl, Nat.le_of_ble_eq_true rfl⟩ dX5_story_83 (fun r83 σ83 => ?_)
      exact j_xiret C hr hlocks rfl dX5_story_86 (Nat.le_of_ble_eq_true rfl) (Nat.le_of_ble_eq_true rfl)
    refine j_ite (fun q26_3 => ?_) (fun q26_3 => ?_)
    · refine j_tin 87 C dX5_story_26 q26_3 (by decide) (by decide) rfl (by decide) ?_
      refine j_aload_n 0 C dX5_story_87 rfl rfl ?_
      refine j_get 1 C fl5_12 (by decide) (ct_0 E _) rfl dX5_story_88 ?_
      refine j_iload_n 1 C dX5_story_91 rfl rfl ?_
      refine j_callVI [.int x1] (con3_linesOnPages N 56 x1 (Or.inl rfl)) C mi3_linesOnPages mv3_linesOnPages lk5_139 (P_lt (Or.inl rfl)) (ct_P E (Or.inl rfl) _) rfl rfl rfl ⟨Nat.le_of_ble_eq_true rfl, Nat.le_of_ble_eq_true rfl, Nat.le_of_ble_eq_true rfl, Nat.le_of_ble_eq_true rfl, Nat.le_of_ble_eq_true rfl⟩ dX5_story_92 (fun r92 σ92 => ?_)
      exact j_xiret C hr hlocks rfl dX5_story_95 (Nat.le_of_ble_eq_true rfl) (Nat.le_of_ble_eq_true rfl)
    refine j_ite (fun q26_4 => ?_) (fun q26_4 => ?_)
    · refine j_tin 96 C dX5_story_26 q26_4 (by decide) (by decide) rfl (by decide) ?_
      refine j_aload_n 0 C dX5_story_96 rfl rfl ?_
      refine j_get 1 C fl5_12 (by decide) (ct_0 E _) rfl dX5_story_97 ?_
      refine j_iload_n 1 C dX5_story_100 rfl rfl ?_
      refine j_callVI [.int x1] (con3_linesCut N 56 x1 (Or.inl rfl)) C mi3_linesCut mv3_linesCut lk5_142 (P_lt (Or.inl rfl)) (ct_P E (Or.inl rfl) _) rfl rfl rfl ⟨Nat.le_of_ble_eq_true rfl, Nat.le_of_ble_eq_true rfl, Nat.le_of_ble_eq_true rfl, Nat.le_of_ble_eq_true rfl, Nat.le_of_ble_eq_true rfl⟩ dX5_story_101 (fun r101 σ101 => ?_)
      exact j_xiret C hr hlocks rfl dX5_story_104 (Nat.le_of_ble_eq_true rfl) (Nat.le_of_ble_eq_true rfl)
    refine j_tout 105 C dX5_story_26 (by have h0 := lv_neT q26_0 (a := 8) (by decide); have h1 := lv_neT q26_1 (a := 9) (by decide); have h2 := lv_neT q26_2 (a := 10) (by decide); have h3 := lv_neT q26_3 (a := 11) (by decide); have h4 := lv_neT q26_4 (a := 12) (by decide); omega) (by decide) ?_
    exact j_throw C hT ht hlocks th5_106_108 dX5_story_105 dX5_story_108 dX5_story_109 dX5_story_112 ⟨Nat.le_of_ble_eq_true rfl, Nat.le_of_ble_eq_true rfl, Nat.le_of_ble_eq_true rfl, Nat.le_of_ble_eq_true rfl⟩ (Nat.le_of_ble_eq_true rfl) (Nat.le_of_ble_eq_true rfl)
  unfold f5_story
  refine j_aload_n 0 C dX5_story_0 rfl rfl ?_
  refine j_iload_n 1 C dX5_story_1 rfl rfl ?_
  refine j_callXVV [.int x1] (con5_needStory N x1) C hT ht hlocks mi5_needStory mv5_needStory lk5_91 (by decide) (ct_0 E _) rfl rfl rfl ⟨Nat.le_of_ble_eq_true rfl, Nat.le_of_ble_eq_true rfl, Nat.le_of_ble_eq_true rfl, Nat.le_of_ble_eq_true rfl, Nat.le_of_ble_eq_true rfl⟩ (Nat.le_of_ble_eq_true rfl) (Nat.le_of_ble_eq_true rfl) dX5_story_2 (fun σ2 => ?_)
  refine j_iload_n 2 C dX5_story_5 rfl rfl ?_
  refine j_zlt 25 C dX5_story_6 (by decide) ?_ ?_
  · exact j_sub [0, 1, 2] rfl (wJ25 σ2)
  · refine j_iload_n 2 C dX5_story_9 rfl rfl ?_
    refine j_bipush (v := 8) 8 C dX5_story_10 (by decide) ?_
    refine j_ige 25 C dX5_story_12 (by decide) ?_ ?_
    · exact j_sub [0, 1, 2] rfl (wJ25 σ2)
    · refine j_aload_n 0 C dX5_story_15 rfl rfl ?_
      refine j_get 0 C fl5_20 (by decide) (ct_0 E _) rfl dX5_story_16 ?_
      refine j_iload_n 1 C dX5_story_19 rfl rfl ?_
      refine j_iload_n 2 C dX5_story_20 rfl rfl ?_
      refine j_callVI [.int x1, .int x2] (con1_storyNumber N 1 x1 x2 ⟨by decide, by decide⟩) C mi1_storyNumber mv1_storyNumber lk5_83 (E_lt ⟨by decide, by decide⟩) (ct_E E ⟨by decide, by decide⟩ _) rfl rfl rfl ⟨Nat.le_of_ble_eq_true rfl, Nat.le_of_ble_eq_true rfl, Nat.le_of_ble_eq_true rfl, Nat.le_of_ble_eq_true rfl, Nat.le_of_ble_eq_true rfl⟩ dX5_story_21 (fun r21 σ21 => ?_)
      exact j_xiret C hr hlocks rfl dX5_story_24 (Nat.le_of_ble_eq_true rfl) (Nat.le_of_ble_eq_true rfl)
set_option maxHeartbeats 4000000 in
set_option maxRecDepth 100000 in
theorem con5_advertisement (N : Nat) (x1 : Int32) (x2 : Int32) : CoXI yX5_advertisement cX5_advertisement 3 .int rm5_advertisement (fun E => [.ref (ea E 0), .int x1, .int x2]) (f5_advertisement N x1 x2) := by
  refine coXI_of (L := fun E => [(0, .ref (ea E 0)), (1, .int x1), (2, .int x2)]) (by decide) (fun _ => Nat.le_of_ble_eq_true rfl) (fun _ => rfl) ?_
  intro l E σ p e s m args below meth c C hr hlocks hT ht
  have wJ25 : ∀ (σ : Hp), J E 3 p l e rm5_advertisement s m args below meth c (XI E below args s rm5_advertisement.cells rm5_advertisement.slots) (f5_advertisement_J25 N x1 x2 σ) 25 [(0, .ref (ea E 0)), (1, .int x1), (2, .int x2)] [] σ 1 6 := by
    intro σ
    unfold f5_advertisement_J25
    refine j_iload_n 2 C dX5_advertisement_25 rfl rfl ?_
    refine j_bipush (v := 6) 6 C dX5_advertisement_26 (by decide) ?_
    refine j_ieq 39 C dX5_advertisement_28 (by decide) ?_ ?_
    · refine j_aload_n 0 C dX5_advertisement_39 rfl rfl ?_
      refine j_get 0 C fl5_20 (by decide) (ct_0 E _) rfl dX5_advertisement_40 ?_
      refine j_iload_n 1 C dX5_advertisement_43 rfl rfl ?_
      refine j_callVI [.int x1] (con1_priceOfCells N 1 x1 ⟨by decide, by decide⟩) C mi1_priceOfCells mv1_priceOfCells lk5_151 (E_lt ⟨by decide, by decide⟩) (ct_E E ⟨by decide, by decide⟩ _) rfl rfl rfl ⟨Nat.le_of_ble_eq_true rfl, Nat.le_of_ble_eq_true rfl, Nat.le_of_ble_eq_true rfl, Nat.le_of_ble_eq_true rfl, Nat.le_of_ble_eq_true rfl⟩ dX5_advertisement_44 (fun r44 σ44 => ?_)
      exact j_xiret C hr hlocks rfl dX5_advertisement_47 (Nat.le_of_ble_eq_true rfl) (Nat.le_of_ble_eq_true rfl)
    · exact j_throw C hT ht hlocks th5_106_108 dX5_advertisement_31 dX5_advertisement_34 dX5_advertisement_35 dX5_advertisement_38 ⟨Nat.le_of_ble_eq_true rfl, Nat.le_of_ble_eq_true rfl, Nat.le_of_ble_eq_true rfl, Nat.le_of_ble_eq_true rfl⟩ (Nat.le_of_ble_eq_true rfl) (Nat.le_of_ble_eq_true rfl)
  unfold f5_advertisement
  refine j_aload_n 0 C dX5_advertisement_0 rfl rfl ?_
  refine j_iload_n 1 C dX5_advertisement_1 rfl rfl ?_
  refine j_callXVV [.int x1] (con5_needAdvertisement N x1) C hT ht hlocks mi5_needAdvertisement mv5_needAdvertisement lk5_145 (by decide) (ct_0 E _) rfl rfl rfl ⟨Nat.le_of_ble_eq_true rfl, Nat.le_of_ble_eq_true rfl, Nat.le_of_ble_eq_true rfl, Nat.le_of_ble_eq_true rfl, Nat.le_of_ble_eq_true rfl⟩ (Nat.le_of_ble_eq_true rfl) (Nat.le_of_ble_eq_true rfl) dX5_advertisement_2 (fun σ2 => ?_)
  refine j_iload_n 2 C dX5_advertisement_5 rfl rfl ?_
  refine j_zlt 25 C dX5_advertisement_6 (by decide) ?_ ?_
  · exact j_sub [0, 1, 2] rfl (wJ25 σ2)
  · refine j_iload_n 2 C dX5_advertisement_9 rfl rfl ?_
    refine j_bipush (v := 6) 6 C dX5_advertisement_10 (by decide) ?_
    refine j_ige 25 C dX5_advertisement_12 (by decide) ?_ ?_
    · exact j_sub [0, 1, 2] rfl (wJ25 σ2)
    · refine j_aload_n 0 C dX5_advertisement_15 rfl rfl ?_
      refine j_get 0 C fl5_20 (by decide) (ct_0 E _) rfl dX5_advertisement_16 ?_
      refine j_iload_n 1 C dX5_advertisement_19 rfl rfl ?_
      refine j_iload_n 2 C dX5_advertisement_20 rfl rfl ?_
      refine j_callVI [.int x1, .int x2] (con1_advertisementNumber N 1 x1 x2 ⟨by decide, by decide⟩) C mi1_advertisementNumber mv1_advertisementNumber lk5_148 (E_lt ⟨by decide, by decide⟩) (ct_E E ⟨by decide, by decide⟩ _) rfl rfl rfl ⟨Nat.le_of_ble_eq_true rfl, Nat.le_of_ble_eq_true rfl, Nat.le_of_ble_eq_true rfl, Nat.le_of_ble_eq_true rfl, Nat.le_of_ble_eq_true rfl⟩ dX5_advertisement_21 (fun r21 σ21 => ?_)
      exact j_xiret C hr hlocks rfl dX5_advertisement_24 (Nat.le_of_ble_eq_true rfl) (Nat.le_of_ble_eq_true rfl)
set_option maxHeartbeats 4000000 in
set_option maxRecDepth 100000 in
theorem con5_needCell (N : Nat) (x0 : Int32) (x1 : Int32) (x2 : Int32) : CoXV yX5_needCell cX5_needCell 3 rm5_needCell (fun E => [.int x0, .int x1, .int x2]) (f5_needCell N x0 x1 x2) := by
  refine coXV_of (L := fun E => [(0, .int x0), (1, .int x1), (2, .int x2)]) (by decide) (fun _ => Nat.le_of_ble_eq_true rfl) (fun _ => rfl) ?_
  intro l E σ p e s m args below meth c C hr hlocks hT ht
  unfold f5_needCell
  refine j_iload_n 0 C dX5_needCell_0 rfl rfl ?_
  refine j_callSI [.int x0] (con5_isPage N x0) C mi5_isPage ms5_isPage lk5_361 rfl rfl ⟨Nat.le_of_ble_eq_true rfl, Nat.le_of_ble_eq_true rfl, Nat.le_of_ble_eq_true rfl, Nat.le_of_ble_eq_true rfl, Nat.le_of_ble_eq_true rfl⟩ dX5_needCell_1 (fun r1 σ1 => ?_)
  refine j_zeq 26 C dX5_needCell_4 (by decide) ?_ ?_
  · exact j_throw C hT ht hlocks th5_169_171 dX5_needCell_26 dX5_needCell_29 dX5_needCell_30 dX5_needCell_33 ⟨Nat.le_of_ble_eq_true rfl, Nat.le_of_ble_eq_true rfl, Nat.le_of_ble_eq_true rfl, Nat.le_of_ble_eq_true rfl⟩ (Nat.le_of_ble_eq_true rfl) (Nat.le_of_ble_eq_true rfl)
  · refine j_iload_n 1 C dX5_needCell_7 rfl rfl ?_
    refine j_zlt 26 C dX5_needCell_8 (by decide) ?_ ?_
    · exact j_throw C hT ht hlocks th5_169_171 dX5_needCell_26 dX5_needCell_29 dX5_needCell_30 dX5_needCell_33 ⟨Nat.le_of_ble_eq_true rfl, Nat.le_of_ble_eq_true rfl, Nat.le_of_ble_eq_true rfl, Nat.le_of_ble_eq_true rfl⟩ (Nat.le_of_ble_eq_true rfl) (Nat.le_of_ble_eq_true rfl)
    · refine j_iload_n 1 C dX5_needCell_11 rfl rfl ?_
      refine j_iconst (v := 5) 5 C dX5_needCell_12 (by decide) ?_
      refine j_ige 26 C dX5_needCell_13 (by decide) ?_ ?_
      · exact j_throw C hT ht hlocks th5_169_171 dX5_needCell_26 dX5_needCell_29 dX5_needCell_30 dX5_needCell_33 ⟨Nat.le_of_ble_eq_true rfl, Nat.le_of_ble_eq_true rfl, Nat.le_of_ble_eq_true rfl, Nat.le_of_ble_eq_true rfl⟩ (Nat.le_of_ble_eq_true rfl) (Nat.le_of_ble_eq_true rfl)
      · refine j_iload_n 2 C dX5_needCell_16 rfl rfl ?_
        refine j_zlt 26 C dX5_needCell_17 (by decide) ?_ ?_
        · exact j_throw C hT ht hlocks th5_169_171 dX5_needCell_26 dX5_needCell_29 dX5_needCell_30 dX5_needCell_33 ⟨Nat.le_of_ble_eq_true rfl, Nat.le_of_ble_eq_true rfl, Nat.le_of_ble_eq_true rfl, Nat.le_of_ble_eq_true rfl⟩ (Nat.le_of_ble_eq_true rfl) (Nat.le_of_ble_eq_true rfl)
        · refine j_iload_n 2 C dX5_needCell_20 rfl rfl ?_
          refine j_bipush (v := 24) 24 C dX5_needCell_21 (by decide) ?_
          refine j_ilt 34 C dX5_needCell_23 (by decide) ?_ ?_
          · exact j_xvret C hr hlocks dX5_needCell_34 (Nat.le_of_ble_eq_true rfl) (Nat.le_of_ble_eq_true rfl)
          · exact j_throw C hT ht hlocks th5_169_171 dX5_needCell_26 dX5_needCell_29 dX5_needCell_30 dX5_needCell_33 ⟨Nat.le_of_ble_eq_true rfl, Nat.le_of_ble_eq_true rfl, Nat.le_of_ble_eq_true rfl, Nat.le_of_ble_eq_true rfl⟩ (Nat.le_of_ble_eq_true rfl) (Nat.le_of_ble_eq_true rfl)
set_option maxHeartbeats 4000000 in
set_option maxRecDepth 100000 in
theorem con5_cell (N : Nat) (x1 : Int32) (x2 : Int32) (x3 : Int32) : CoXI yX5_cell cX5_cell 4 .int rm5_cell (fun E => [.ref (ea E 0), .int x1, .int x2, .int x3]) (f5_cell N x1 x2 x3) := by
  refine coXI_of (L := fun E => [(0, .ref (ea E 0)), (1, .int x1), (2, .int x2), (3, .int x3)]) (by decide) (fun _ => Nat.le_of_ble_eq_true rfl) (fun _ => rfl) ?_
  intro l E σ p e s m args below meth c C hr hlocks hT ht
  unfold f5_cell
  refine j_iload_n 1 C dX5_cell_0 rfl rfl ?_
  refine j_iload_n 2 C dX5_cell_1 rfl rfl ?_
  refine j_iload_n 3 C dX5_cell_2 rfl rfl ?_
  refine j_callXSV [.int x1, .int x2, .int x3] (con5_needCell N x1 x2 x3) C hT ht hlocks mi5_needCell ms5_needCell lk5_154 rfl rfl ⟨Nat.le_of_ble_eq_true rfl, Nat.le_of_ble_eq_true rfl, Nat.le_of_ble_eq_true rfl, Nat.le_of_ble_eq_true rfl, Nat.le_of_ble_eq_true rfl⟩ (Nat.le_of_ble_eq_true rfl) (Nat.le_of_ble_eq_true rfl) dX5_cell_3 (fun σ3 => ?_)
  refine j_aload_n 0 C dX5_cell_6 rfl rfl ?_
  refine j_get 1 C fl5_12 (by decide) (ct_0 E _) rfl dX5_cell_7 ?_
  refine j_iload_n 1 C dX5_cell_10 rfl rfl ?_
  refine j_iload_n 2 C dX5_cell_11 rfl rfl ?_
  refine j_iload_n 3 C dX5_cell_12 rfl rfl ?_
  refine j_callSI [.int x1, .int x2, .int x3] (con5_cellIndex N x1 x2 x3) C mi5_cellIndex ms5_cellIndex lk5_157 rfl rfl ⟨Nat.le_of_ble_eq_true rfl, Nat.le_of_ble_eq_true rfl, Nat.le_of_ble_eq_true rfl, Nat.le_of_ble_eq_true rfl, Nat.le_of_ble_eq_true rfl⟩ dX5_cell_13 (fun r13 σ13 => ?_)
  refine j_callVI [.int r13] (con3_kindAt N 56 r13 (Or.inl rfl)) C mi3_kindAt mv3_kindAt lk5_160 (P_lt (Or.inl rfl)) (ct_P E (Or.inl rfl) _) rfl rfl rfl ⟨Nat.le_of_ble_eq_true rfl, Nat.le_of_ble_eq_true rfl, Nat.le_of_ble_eq_true rfl, Nat.le_of_ble_eq_true rfl, Nat.le_of_ble_eq_true rfl⟩ dX5_cell_16 (fun r16 σ16 => ?_)
  exact j_xiret C hr hlocks rfl dX5_cell_19 (Nat.le_of_ble_eq_true rfl) (Nat.le_of_ble_eq_true rfl)
set_option maxHeartbeats 4000000 in
set_option maxRecDepth 100000 in
theorem con5_owner (N : Nat) (x1 : Int32) (x2 : Int32) (x3 : Int32) : CoXI yX5_owner cX5_owner 5 .int rm5_owner (fun E => [.ref (ea E 0), .int x1, .int x2, .int x3]) (f5_owner N x1 x2 x3) := by
  refine coXI_of (L := fun E => [(0, .ref (ea E 0)), (1, .int x1), (2, .int x2), (3, .int x3)]) (by decide) (fun _ => Nat.le_of_ble_eq_true rfl) (fun _ => rfl) ?_
  intro l E σ p e s m args below meth c C hr hlocks hT ht
  unfold f5_owner
  refine j_iload_n 1 C dX5_owner_0 rfl rfl ?_
  refine j_iload_n 2 C dX5_owner_1 rfl rfl ?_
  refine j_iload_n 3 C dX5_owner_2 rfl rfl ?_
  refine j_callXSV [.int x1, .int x2, .int x3] (con5_needCell N x1 x2 x3) C hT ht hlocks mi5_needCell ms5_needCell lk5_154 rfl rfl ⟨Nat.le_of_ble_eq_true rfl, Nat.le_of_ble_eq_true rfl, Nat.le_of_ble_eq_true rfl, Nat.le_of_ble_eq_true rfl, Nat.le_of_ble_eq_true rfl⟩ (Nat.le_of_ble_eq_true rfl) (Nat.le_of_ble_eq_true rfl) dX5_owner_3 (fun σ3 => ?_)
  refine j_iload_n 1 C dX5_owner_6 rfl rfl ?_
  refine j_iload_n 2 C dX5_owner_7 rfl rfl ?_
  refine j_iload_n 3 C dX5_owner_8 rfl rfl ?_
  refine j_callSI [.int x1, .int x2, .int x3] (con5_cellIndex N x1 x2 x3) C mi5_cellIndex ms5_cellIndex lk5_157 rfl rfl ⟨Nat.le_of_ble_eq_true rfl, Nat.le_of_ble_eq_true rfl, Nat.le_of_ble_eq_true rfl, Nat.le_of_ble_eq_true rfl, Nat.le_of_ble_eq_true rfl⟩ dX5_owner_9 (fun r9 σ9 => ?_)
  refine j_istore [(4, .int r9), (0, .ref (ea E 0)), (1, .int x1), (2, .int x2), (3, .int x3)] C dX5_owner_12 (by decide) rfl ?_
  refine j_aload_n 1 C dX5_owner_14 rfl rfl ?_
  refine j_get 1 C fl5_12 (by decide) (ct_0 E _) rfl dX5_owner_15 ?_
  refine j_iload 0 C dX5_owner_18 rfl ?_
  refine j_callVI [.int r9] (con3_kindAt N 56 r9 (Or.inl rfl)) C mi3_kindAt mv3_kindAt lk5_160 (P_lt (Or.inl rfl)) (ct_P E (Or.inl rfl) _) rfl rfl rfl ⟨Nat.le_of_ble_eq_true rfl, Nat.le_of_ble_eq_true rfl, Nat.le_of_ble_eq_true rfl, Nat.le_of_ble_eq_true rfl, Nat.le_of_ble_eq_true rfl⟩ dX5_owner_20 (fun r20 σ20 => ?_)
  refine j_zne 34 C dX5_owner_23 (by decide) ?_ ?_
  · refine j_aload_n 1 C dX5_owner_34 rfl rfl ?_
    refine j_get 1 C fl5_12 (by decide) (ct_0 E _) rfl dX5_owner_35 ?_
    refine j_iload 0 C dX5_owner_38 rfl ?_
    refine j_callVI [.int r9] (con3_ownerAt N 56 r9 (Or.inl rfl)) C mi3_ownerAt mv3_ownerAt lk5_166 (P_lt (Or.inl rfl)) (ct_P E (Or.inl rfl) _) rfl rfl rfl ⟨Nat.le_of_ble_eq_true rfl, Nat.le_of_ble_eq_true rfl, Nat.le_of_ble_eq_true rfl, Nat.le_of_ble_eq_true rfl, Nat.le_of_ble_eq_true rfl⟩ dX5_owner_40 (fun r40 σ40 => ?_)
    exact j_xiret C hr hlocks rfl dX5_owner_43 (Nat.le_of_ble_eq_true rfl) (Nat.le_of_ble_eq_true rfl)
  · exact j_throw C hT ht hlocks th5_163_165 dX5_owner_26 dX5_owner_29 dX5_owner_30 dX5_owner_33 ⟨Nat.le_of_ble_eq_true rfl, Nat.le_of_ble_eq_true rfl, Nat.le_of_ble_eq_true rfl, Nat.le_of_ble_eq_true rfl⟩ (Nat.le_of_ble_eq_true rfl) (Nat.le_of_ble_eq_true rfl)
set_option maxHeartbeats 4000000 in
set_option maxRecDepth 100000 in
theorem con5_part (N : Nat) (x1 : Int32) (x2 : Int32) (x3 : Int32) : CoXI yX5_part cX5_part 4 .int rm5_part (fun E => [.ref (ea E 0), .int x1, .int x2, .int x3]) (f5_part N x1 x2 x3) := by
  refine coXI_of (L := fun E => [(0, .ref (ea E 0)), (1, .int x1), (2, .int x2), (3, .int x3)]) (by decide) (fun _ => Nat.le_of_ble_eq_true rfl) (fun _ => rfl) ?_
  intro l E σ p e s m args below meth c C hr hlocks hT ht
  unfold f5_part
  refine j_aload_n 0 C dX5_part_0 rfl rfl ?_
  refine j_iload_n 1 C dX5_part_1 rfl rfl ?_
  refine j_callXVV [.int x1] (con5_needStory N x1) C hT ht hlocks mi5_needStory mv5_needStory lk5_91 (by decide) (ct_0 E _) rfl rfl rfl ⟨Nat.le_of_ble_eq_true rfl, Nat.le_of_ble_eq_true rfl, Nat.le_of_ble_eq_true rfl, Nat.le_of_ble_eq_true rfl, Nat.le_of_ble_eq_true rfl⟩ (Nat.le_of_ble_eq_true rfl) (Nat.le_of_ble_eq_true rfl) dX5_part_2 (fun σ2 => ?_)
  refine j_iload_n 2 C dX5_part_5 rfl rfl ?_
  refine j_zlt 21 C dX5_part_6 (by decide) ?_ ?_
  · exact j_throw C hT ht hlocks th5_169_171 dX5_part_21 dX5_part_24 dX5_part_25 dX5_part_28 ⟨Nat.le_of_ble_eq_true rfl, Nat.le_of_ble_eq_true rfl, Nat.le_of_ble_eq_true rfl, Nat.le_of_ble_eq_true rfl⟩ (Nat.le_of_ble_eq_true rfl) (Nat.le_of_ble_eq_true rfl)
  · refine j_iload_n 2 C dX5_part_9 rfl rfl ?_
    refine j_aload_n 0 C dX5_part_10 rfl rfl ?_
    refine j_get 1 C fl5_12 (by decide) (ct_0 E _) rfl dX5_part_11 ?_
    refine j_iload_n 1 C dX5_part_14 rfl rfl ?_
    refine j_callVI [.int x1] (con3_partCountOf N 56 x1 (Or.inl rfl)) C mi3_partCountOf mv3_partCountOf lk5_136 (P_lt (Or.inl rfl)) (ct_P E (Or.inl rfl) _) rfl rfl rfl ⟨Nat.le_of_ble_eq_true rfl, Nat.le_of_ble_eq_true rfl, Nat.le_of_ble_eq_true rfl, Nat.le_of_ble_eq_true rfl, Nat.le_of_ble_eq_true rfl⟩ dX5_part_15 (fun r15 σ15 => ?_)
    refine j_ilt 29 C dX5_part_18 (by decide) ?_ ?_
    · refine j_iload_n 3 C dX5_part_29 rfl rfl ?_
      refine j_zlt 39 C dX5_part_30 (by decide) ?_ ?_
      · exact j_throw C hT ht hlocks th5_106_108 dX5_part_39 dX5_part_42 dX5_part_43 dX5_part_46 ⟨Nat.le_of_ble_eq_true rfl, Nat.le_of_ble_eq_true rfl, Nat.le_of_ble_eq_true rfl, Nat.le_of_ble_eq_true rfl⟩ (Nat.le_of_ble_eq_true rfl) (Nat.le_of_ble_eq_true rfl)
      · refine j_iload_n 3 C dX5_part_33 rfl rfl ?_
        refine j_bipush (v := 7) 7 C dX5_part_34 (by decide) ?_
        refine j_ile 47 C dX5_part_36 (by decide) ?_ ?_
        · refine j_aload_n 0 C dX5_part_47 rfl rfl ?_
          refine j_get 1 C fl5_12 (by decide) (ct_0 E _) rfl dX5_part_48 ?_
          refine j_iload_n 1 C dX5_part_51 rfl rfl ?_
          refine j_iload_n 2 C dX5_part_52 rfl rfl ?_
          refine j_iload_n 3 C dX5_part_53 rfl rfl ?_
          refine j_callVI [.int x1, .int x2, .int x3] (con3_partNumber N 56 x1 x2 x3 (Or.inl rfl)) C mi3_partNumber mv3_partNumber lk5_172 (P_lt (Or.inl rfl)) (ct_P E (Or.inl rfl) _) rfl rfl rfl ⟨Nat.le_of_ble_eq_true rfl, Nat.le_of_ble_eq_true rfl, Nat.le_of_ble_eq_true rfl, Nat.le_of_ble_eq_true rfl, Nat.le_of_ble_eq_true rfl⟩ dX5_part_54 (fun r54 σ54 => ?_)
          exact j_xiret C hr hlocks rfl dX5_part_57 (Nat.le_of_ble_eq_true rfl) (Nat.le_of_ble_eq_true rfl)
        · exact j_throw C hT ht hlocks th5_106_108 dX5_part_39 dX5_part_42 dX5_part_43 dX5_part_46 ⟨Nat.le_of_ble_eq_true rfl, Nat.le_of_ble_eq_true rfl, Nat.le_of_ble_eq_true rfl, Nat.le_of_ble_eq_true rfl⟩ (Nat.le_of_ble_eq_true rfl) (Nat.le_of_ble_eq_true rfl)
    · exact j_throw C hT ht hlocks th5_169_171 dX5_part_21 dX5_part_24 dX5_part_25 dX5_part_28 ⟨Nat.le_of_ble_eq_true rfl, Nat.le_of_ble_eq_true rfl, Nat.le_of_ble_eq_true rfl, Nat.le_of_ble_eq_true rfl⟩ (Nat.le_of_ble_eq_true rfl) (Nat.le_of_ble_eq_true rfl)
set_option maxHeartbeats 4000000 in
set_option maxRecDepth 100000 in
theorem con5_locate (N : Nat) (x1 : Int32) (x2 : Int32) : CoXI yX5_locate cX5_locate 4 .int rm5_locate (fun E => [.ref (ea E 0), .int x1, .int x2]) (f5_locate N x1 x2) := by
  refine coXI_of (L := fun E => [(0, .ref (ea E 0)), (1, .int x1), (2, .int x2)]) (by decide) (fun _ => Nat.le_of_ble_eq_true rfl) (fun _ => rfl) ?_
  intro l E σ p e s m args below meth c C hr hlocks hT ht
  unfold f5_locate
  refine j_aload_n 0 C dX5_locate_0 rfl rfl ?_
  refine j_iload_n 1 C dX5_locate_1 rfl rfl ?_
  refine j_callXVV [.int x1] (con5_needStory N x1) C hT ht hlocks mi5_needStory mv5_needStory lk5_91 (by decide) (ct_0 E _) rfl rfl rfl ⟨Nat.le_of_ble_eq_true rfl, Nat.le_of_ble_eq_true rfl, Nat.le_of_ble_eq_true rfl, Nat.le_of_ble_eq_true rfl, Nat.le_of_ble_eq_true rfl⟩ (Nat.le_of_ble_eq_true rfl) (Nat.le_of_ble_eq_true rfl) dX5_locate_2 (fun σ2 => ?_)
  refine j_iload_n 2 C dX5_locate_5 rfl rfl ?_
  refine j_zlt 22 C dX5_locate_6 (by decide) ?_ ?_
  · exact j_throw C hT ht hlocks th5_169_171 dX5_locate_22 dX5_locate_25 dX5_locate_26 dX5_locate_29 ⟨Nat.le_of_ble_eq_true rfl, Nat.le_of_ble_eq_true rfl, Nat.le_of_ble_eq_true rfl, Nat.le_of_ble_eq_true rfl⟩ (Nat.le_of_ble_eq_true rfl) (Nat.le_of_ble_eq_true rfl)
  · refine j_iload_n 2 C dX5_locate_9 rfl rfl ?_
    refine j_aload_n 0 C dX5_locate_10 rfl rfl ?_
    refine j_get 0 C fl5_20 (by decide) (ct_0 E _) rfl dX5_locate_11 ?_
    refine j_iload_n 1 C dX5_locate_14 rfl rfl ?_
    refine j_iconst (v := 3) 3 C dX5_locate_15 (by decide) ?_
    refine j_callVI [.int x1, .int 3] (con1_storyNumber N 1 x1 3 ⟨by decide, by decide⟩) C mi1_storyNumber mv1_storyNumber lk5_83 (E_lt ⟨by decide, by decide⟩) (ct_E E ⟨by decide, by decide⟩ _) rfl rfl rfl ⟨Nat.le_of_ble_eq_true rfl, Nat.le_of_ble_eq_true rfl, Nat.le_of_ble_eq_true rfl, Nat.le_of_ble_eq_true rfl, Nat.le_of_ble_eq_true rfl⟩ dX5_locate_16 (fun r16 σ16 => ?_)
    refine j_ilt 30 C dX5_locate_19 (by decide) ?_ ?_
    · refine j_aload_n 0 C dX5_locate_30 rfl rfl ?_
      refine j_get 1 C fl5_12 (by decide) (ct_0 E _) rfl dX5_locate_31 ?_
      refine j_iload_n 1 C dX5_locate_34 rfl rfl ?_
      refine j_iload_n 2 C dX5_locate_35 rfl rfl ?_
      refine j_callVI [.int x1, .int x2] (con3_cellOfLine N 56 x1 x2 (Or.inl rfl)) C mi3_cellOfLine mv3_cellOfLine lk5_175 (P_lt (Or.inl rfl)) (ct_P E (Or.inl rfl) _) rfl rfl rfl ⟨Nat.le_of_ble_eq_true rfl, Nat.le_of_ble_eq_true rfl, Nat.le_of_ble_eq_true rfl, Nat.le_of_ble_eq_true rfl, Nat.le_of_ble_eq_true rfl⟩ dX5_locate_36 (fun r36 σ36 => ?_)
      refine j_istore_n [(3, .int r36), (0, .ref (ea E 0)), (1, .int x1), (2, .int x2)] C dX5_locate_39 rfl (by decide) rfl ?_
      refine j_iload_n 0 C dX5_locate_40 rfl rfl ?_
      refine j_iconst (v := (-1)) (-1) C dX5_locate_41 (by decide) ?_
      refine j_ine 53 C dX5_locate_42 (by decide) ?_ ?_
      · refine j_sipush (v := 1000) 1000 C dX5_locate_53 (by decide) ?_
        refine j_iload_n 0 C dX5_locate_56 rfl rfl ?_
        refine j_callSI [.int r36] (con5_pageOf N r36) C mi5_pageOf ms5_pageOf lk5_178 rfl rfl ⟨Nat.le_of_ble_eq_true rfl, Nat.le_of_ble_eq_true rfl, Nat.le_of_ble_eq_true rfl, Nat.le_of_ble_eq_true rfl, Nat.le_of_ble_eq_true rfl⟩ dX5_locate_57 (fun r57 σ57 => ?_)
        refine j_imul C dX5_locate_60 ?_
        refine j_bipush (v := 100) 100 C dX5_locate_61 (by decide) ?_
        refine j_iload_n 0 C dX5_locate_63 rfl rfl ?_
        refine j_callSI [.int r36] (con5_columnOf N r36) C mi5_columnOf ms5_columnOf lk5_181 rfl rfl ⟨Nat.le_of_ble_eq_true rfl, Nat.le_of_ble_eq_true rfl, Nat.le_of_ble_eq_true rfl, Nat.le_of_ble_eq_true rfl, Nat.le_of_ble_eq_true rfl⟩ dX5_locate_64 (fun r64 σ64 => ?_)
        refine j_imul C dX5_locate_67 ?_
        refine j_iadd C dX5_locate_68 ?_
        refine j_iload_n 0 C dX5_locate_69 rfl rfl ?_
        refine j_callSI [.int r36] (con5_rowOf N r36) C mi5_rowOf ms5_rowOf lk5_184 rfl rfl ⟨Nat.le_of_ble_eq_true rfl, Nat.le_of_ble_eq_true rfl, Nat.le_of_ble_eq_true rfl, Nat.le_of_ble_eq_true rfl, Nat.le_of_ble_eq_true rfl⟩ dX5_locate_70 (fun r70 σ70 => ?_)
        refine j_iadd C dX5_locate_73 ?_
        exact j_xiret C hr hlocks rfl dX5_locate_74 (Nat.le_of_ble_eq_true rfl) (Nat.le_of_ble_eq_true rfl)
      · exact j_throw C hT ht hlocks th5_163_165 dX5_locate_45 dX5_locate_48 dX5_locate_49 dX5_locate_52 ⟨Nat.le_of_ble_eq_true rfl, Nat.le_of_ble_eq_true rfl, Nat.le_of_ble_eq_true rfl, Nat.le_of_ble_eq_true rfl⟩ (Nat.le_of_ble_eq_true rfl) (Nat.le_of_ble_eq_true rfl)
    · exact j_throw C hT ht hlocks th5_169_171 dX5_locate_22 dX5_locate_25 dX5_locate_26 dX5_locate_29 ⟨Nat.le_of_ble_eq_true rfl, Nat.le_of_ble_eq_true rfl, Nat.le_of_ble_eq_true rfl, Nat.le_of_ble_eq_true rfl⟩ (Nat.le_of_ble_eq_true rfl) (Nat.le_of_ble_eq_true rfl)
set_option maxHeartbeats 4000000 in
set_option maxRecDepth 100000 in
theorem con5_ranked (N : Nat) (x1 : Int32) : CoXI yX5_ranked cX5_ranked 2 .int rm5_ranked (fun E => [.ref (ea E 0), .int x1]) (f5_ranked N x1) := by
  refine coXI_of (L := fun E => [(0, .ref (ea E 0)), (1, .int x1)]) (by decide) (fun _ => Nat.le_of_ble_eq_true rfl) (fun _ => rfl) ?_
  intro l E σ p e s m args below meth c C hr hlocks hT ht
  unfold f5_ranked
  refine j_iload_n 1 C dX5_ranked_0 rfl rfl ?_
  refine j_zlt 15 C dX5_ranked_1 (by decide) ?_ ?_
  · exact j_throw C hT ht hlocks th5_169_171 dX5_ranked_15 dX5_ranked_18 dX5_ranked_19 dX5_ranked_22 ⟨Nat.le_of_ble_eq_true rfl, Nat.le_of_ble_eq_true rfl, Nat.le_of_ble_eq_true rfl, Nat.le_of_ble_eq_true rfl⟩ (Nat.le_of_ble_eq_true rfl) (Nat.le_of_ble_eq_true rfl)
  · refine j_iload_n 1 C dX5_ranked_4 rfl rfl ?_
    refine j_aload_n 0 C dX5_ranked_5 rfl rfl ?_
    refine j_get 0 C fl5_20 (by decide) (ct_0 E _) rfl dX5_ranked_6 ?_
    refine j_callVI [] (con1_storyCount N 1 ⟨by decide, by decide⟩) C mi1_storyCount mv1_storyCount lk5_122 (E_lt ⟨by decide, by decide⟩) (ct_E E ⟨by decide, by decide⟩ _) rfl rfl rfl ⟨Nat.le_of_ble_eq_true rfl, Nat.le_of_ble_eq_true rfl, Nat.le_of_ble_eq_true rfl, Nat.le_of_ble_eq_true rfl, Nat.le_of_ble_eq_true rfl⟩ dX5_ranked_9 (fun r9 σ9 => ?_)
    refine j_ilt 23 C dX5_ranked_12 (by decide) ?_ ?_
    · refine j_aload_n 0 C dX5_ranked_23 rfl rfl ?_
      refine j_get 1 C fl5_12 (by decide) (ct_0 E _) rfl dX5_ranked_24 ?_
      refine j_iload_n 1 C dX5_ranked_27 rfl rfl ?_
      refine j_callVI [.int x1] (con3_storyOfRank N 56 x1 (Or.inl rfl)) C mi3_storyOfRank mv3_storyOfRank lk5_187 (P_lt (Or.inl rfl)) (ct_P E (Or.inl rfl) _) rfl rfl rfl ⟨Nat.le_of_ble_eq_true rfl, Nat.le_of_ble_eq_true rfl, Nat.le_of_ble_eq_true rfl, Nat.le_of_ble_eq_true rfl, Nat.le_of_ble_eq_true rfl⟩ dX5_ranked_28 (fun r28 σ28 => ?_)
      exact j_xiret C hr hlocks rfl dX5_ranked_31 (Nat.le_of_ble_eq_true rfl) (Nat.le_of_ble_eq_true rfl)
    · exact j_throw C hT ht hlocks th5_169_171 dX5_ranked_15 dX5_ranked_18 dX5_ranked_19 dX5_ranked_22 ⟨Nat.le_of_ble_eq_true rfl, Nat.le_of_ble_eq_true rfl, Nat.le_of_ble_eq_true rfl, Nat.le_of_ble_eq_true rfl⟩ (Nat.le_of_ble_eq_true rfl) (Nat.le_of_ble_eq_true rfl)
set_option maxHeartbeats 4000000 in
set_option maxRecDepth 100000 in
theorem con5_fate (N : Nat) (x1 : Int32) : CoXI yX5_fate cX5_fate 2 .int rm5_fate (fun E => [.ref (ea E 0), .int x1]) (f5_fate N x1) := by
  refine coXI_of (L := fun E => [(0, .ref (ea E 0)), (1, .int x1)]) (by decide) (fun _ => Nat.le_of_ble_eq_true rfl) (fun _ => rfl) ?_
  intro l E σ p e s m args below meth c C hr hlocks hT ht
  unfold f5_fate
  refine j_aload_n 0 C dX5_fate_0 rfl rfl ?_
  refine j_iload_n 1 C dX5_fate_1 rfl rfl ?_
  refine j_callXVV [.int x1] (con5_needStory N x1) C hT ht hlocks mi5_needStory mv5_needStory lk5_91 (by decide) (ct_0 E _) rfl rfl rfl ⟨Nat.le_of_ble_eq_true rfl, Nat.le_of_ble_eq_true rfl, Nat.le_of_ble_eq_true rfl, Nat.le_of_ble_eq_true rfl, Nat.le_of_ble_eq_true rfl⟩ (Nat.le_of_ble_eq_true rfl) (Nat.le_of_ble_eq_true rfl) dX5_fate_2 (fun σ2 => ?_)
  refine j_aload_n 0 C dX5_fate_5 rfl rfl ?_
  refine j_get 1 C fl5_12 (by decide) (ct_0 E _) rfl dX5_fate_6 ?_
  refine j_iload_n 1 C dX5_fate_9 rfl rfl ?_
  refine j_callVI [.int x1] (con3_isLeftOut N 56 x1 (Or.inl rfl)) C mi3_isLeftOut mv3_isLeftOut lk5_190 (P_lt (Or.inl rfl)) (ct_P E (Or.inl rfl) _) rfl rfl rfl ⟨Nat.le_of_ble_eq_true rfl, Nat.le_of_ble_eq_true rfl, Nat.le_of_ble_eq_true rfl, Nat.le_of_ble_eq_true rfl, Nat.le_of_ble_eq_true rfl⟩ dX5_fate_10 (fun r10 σ10 => ?_)
  refine j_zeq 18 C dX5_fate_13 (by decide) ?_ ?_
  · refine j_aload_n 0 C dX5_fate_18 rfl rfl ?_
    refine j_get 1 C fl5_12 (by decide) (ct_0 E _) rfl dX5_fate_19 ?_
    refine j_iload_n 1 C dX5_fate_22 rfl rfl ?_
    refine j_callVI [.int x1] (con3_isBumped N 56 x1 (Or.inl rfl)) C mi3_isBumped mv3_isBumped lk5_193 (P_lt (Or.inl rfl)) (ct_P E (Or.inl rfl) _) rfl rfl rfl ⟨Nat.le_of_ble_eq_true rfl, Nat.le_of_ble_eq_true rfl, Nat.le_of_ble_eq_true rfl, Nat.le_of_ble_eq_true rfl, Nat.le_of_ble_eq_true rfl⟩ dX5_fate_23 (fun r23 σ23 => ?_)
    refine j_zeq 31 C dX5_fate_26 (by decide) ?_ ?_
    · refine j_aload_n 0 C dX5_fate_31 rfl rfl ?_
      refine j_get 1 C fl5_12 (by decide) (ct_0 E _) rfl dX5_fate_32 ?_
      refine j_iload_n 1 C dX5_fate_35 rfl rfl ?_
      refine j_callVI [.int x1] (con3_linesCut N 56 x1 (Or.inl rfl)) C mi3_linesCut mv3_linesCut lk5_142 (P_lt (Or.inl rfl)) (ct_P E (Or.inl rfl) _) rfl rfl rfl ⟨Nat.le_of_ble_eq_true rfl, Nat.le_of_ble_eq_true rfl, Nat.le_of_ble_eq_true rfl, Nat.le_of_ble_eq_true rfl, Nat.le_of_ble_eq_true rfl⟩ dX5_fate_36 (fun r36 σ36 => ?_)
      refine j_zle 46 C dX5_fate_39 (by decide) ?_ ?_
      · refine j_iconst (v := 0) 0 C dX5_fate_46 (by decide) ?_
        exact j_xiret C hr hlocks rfl dX5_fate_47 (Nat.le_of_ble_eq_true rfl) (Nat.le_of_ble_eq_true rfl)
      · refine j_iconst (v := 1) 1 C dX5_fate_42 (by decide) ?_
        refine j_goto 47 C dX5_fate_43 (by decide) ?_
        exact j_xiret C hr hlocks rfl dX5_fate_47 (Nat.le_of_ble_eq_true rfl) (Nat.le_of_ble_eq_true rfl)
    · refine j_iconst (v := 2) 2 C dX5_fate_29 (by decide) ?_
      exact j_xiret C hr hlocks rfl dX5_fate_30 (Nat.le_of_ble_eq_true rfl) (Nat.le_of_ble_eq_true rfl)
  · refine j_iconst (v := 3) 3 C dX5_fate_16 (by decide) ?_
    exact j_xiret C hr hlocks rfl dX5_fate_17 (Nat.le_of_ble_eq_true rfl) (Nat.le_of_ble_eq_true rfl)
set_option maxHeartbeats 4000000 in
set_option maxRecDepth 100000 in
theorem con5_blamed (N : Nat) (x1 : Int32) : CoXI yX5_blamed cX5_blamed 4 .int rm5_blamed (fun E => [.ref (ea E 0), .int x1]) (f5_blamed N x1) := by
  refine coXI_of (L := fun E => [(0, .ref (ea E 0)), (1, .int x1)]) (by decide) (fun _ => Nat.le_of_ble_eq_true rfl) (fun _ => rfl) ?_
  intro l E σ p e s m args below meth c C hr hlocks hT ht
  have wL35 : ∀ (K35 : Hp → Option ((Int32 ⊕ Nat) × Hp)), (∀ (σ : Hp), J E 4 p l e rm5_blamed s m args below meth c (XI E below args s rm5_blamed.cells rm5_blamed.slots) (K35 σ) 93 [] [] σ 1 6) → ∀ (n35 : Nat) (x2 : Int32) (σ : Hp), J E 4 p l e rm5_blamed s m args below meth c (XI E below args s rm5_blamed.cells rm5_blamed.slots) (f5_blamed_L35 N x1 K35 n35 x2 σ) 35 [(0, .ref (ea E 0)), (1, .int x1), (2, .int x2)] [] σ 1 6 := by
    intro K35 HK35 n35
    induction n35 with
    | zero => intro x2 σ; exact j_none
    | succ n35 ih35 =>
      intro x2 σ
      show J E 4 p l e rm5_blamed s m args below meth c (XI E below args s rm5_blamed.cells rm5_blamed.slots) (f5_blamed_B35 N x1 K35 (f5_blamed_L35 N x1 K35 n35) x2 σ) 35 [(0, .ref (ea E 0)), (1, .int x1), (2, .int x2)] [] σ 1 6
      unfold f5_blamed_B35
      refine j_iload_n 2 C dX5_blamed_35 rfl rfl ?_
      refine j_zlt 93 C dX5_blamed_36 (by decide) ?_ ?_
      · exact j_sub [] rfl (HK35 σ)
      · refine j_aload_n 0 C dX5_blamed_39 rfl rfl ?_
        refine j_get 1 C fl5_12 (by decide) (ct_0 E _) rfl dX5_blamed_40 ?_
        refine j_iload_n 2 C dX5_blamed_43 rfl rfl ?_
        refine j_callVI [.int x2] (con3_storyOfRank N 56 x2 (Or.inl rfl)) C mi3_storyOfRank mv3_storyOfRank lk5_187 (P_lt (Or.inl rfl)) (ct_P E (Or.inl rfl) _) rfl rfl rfl ⟨Nat.le_of_ble_eq_true rfl, Nat.le_of_ble_eq_true rfl, Nat.le_of_ble_eq_true rfl, Nat.le_of_ble_eq_true rfl, Nat.le_of_ble_eq_true rfl⟩ dX5_blamed_44 (fun r44 σ44 => ?_)
        refine j_istore_n [(3, .int r44), (0, .ref (ea E 0)), (1, .int x1), (2, .int x2)] C dX5_blamed_47 rfl (by decide) rfl ?_
        refine j_aload_n 1 C dX5_blamed_48 rfl rfl ?_
        refine j_get 2 C fl5_24 (by decide) (ct_0 E _) rfl dX5_blamed_49 ?_
        refine j_aload_n 1 C dX5_blamed_52 rfl rfl ?_
        refine j_get 0 C fl5_20 (by decide) (ct_0 E _) rfl dX5_blamed_53 ?_
        refine j_callVV [.ref (ea E 1)] (con1_copyFrom N 6 1 ⟨by decide, by decide⟩ ⟨by decide, by decide⟩) C mi1_copyFrom mv1_copyFrom lk5_199 (E_lt ⟨by decide, by decide⟩) (ct_E E ⟨by decide, by decide⟩ _) rfl rfl rfl ⟨Nat.le_of_ble_eq_true rfl, Nat.le_of_ble_eq_true rfl, Nat.le_of_ble_eq_true rfl, Nat.le_of_ble_eq_true rfl, Nat.le_of_ble_eq_true rfl⟩ dX5_blamed_56 (fun σ56 => ?_)
        refine j_aload_n 1 C dX5_blamed_59 rfl rfl ?_
        refine j_get 2 C fl5_24 (by decide) (ct_0 E _) rfl dX5_blamed_60 ?_
        refine j_iload_n 0 C dX5_blamed_63 rfl rfl ?_
        refine j_callVV [.int r44] (con1_dropStory N 6 r44 ⟨by decide, by decide⟩) C mi1_dropStory mv1_dropStory lk5_116 (E_lt ⟨by decide, by decide⟩) (ct_E E ⟨by decide, by decide⟩ _) rfl rfl rfl ⟨Nat.le_of_ble_eq_true rfl, Nat.le_of_ble_eq_true rfl, Nat.le_of_ble_eq_true rfl, Nat.le_of_ble_eq_true rfl, Nat.le_of_ble_eq_true rfl⟩ dX5_blamed_64 (fun σ64 => ?_)
        refine j_aload_n 1 C dX5_blamed_67 rfl rfl ?_
        refine j_get 3 C fl5_21 (by decide) (ct_0 E _) rfl dX5_blamed_68 ?_
        refine j_callVV [] (con3_layOut N 65 (Or.inr rfl)) C mi3_layOut mv3_layOut lk5_69 (P_lt (Or.inr rfl)) (ct_P E (Or.inr rfl) _) rfl rfl rfl ⟨Nat.le_of_ble_eq_true rfl, Nat.le_of_ble_eq_true rfl, Nat.le_of_ble_eq_true rfl, Nat.le_of_ble_eq_true rfl, Nat.le_of_ble_eq_true rfl⟩ dX5_blamed_71 (fun σ71 => ?_)
        refine j_aload_n 1 C dX5_blamed_74 rfl rfl ?_
        refine j_get 3 C fl5_21 (by decide) (ct_0 E _) rfl dX5_blamed_75 ?_
        refine j_iload_n 2 C dX5_blamed_78 rfl rfl ?_
        refine j_callVI [.int x1] (con3_startsOnOwnPage N 65 x1 (Or.inr rfl)) C mi3_startsOnOwnPage mv3_startsOnOwnPage lk5_196 (P_lt (Or.inr rfl)) (ct_P E (Or.inr rfl) _) rfl rfl rfl ⟨Nat.le_of_ble_eq_true rfl, Nat.le_of_ble_eq_true rfl, Nat.le_of_ble_eq_true rfl, Nat.le_of_ble_eq_true rfl, Nat.le_of_ble_eq_true rfl⟩ dX5_blamed_79 (fun r79 σ79 => ?_)
        refine j_zeq 87 C dX5_blamed_82 (by decide) ?_ ?_
        · refine j_iinc 3 (-1) [(2, .int (x2 + (-1))), (3, .int r44), (0, .ref (ea E 0)), (1, .int x1)] C dX5_blamed_87 rfl rfl (by decide) rfl ?_
          refine j_goto 35 C dX5_blamed_90 (by decide) ?_
          exact j_sub [2, 3, 0] rfl (ih35 (x2 + (-1)) σ79)
        · refine j_iload_n 0 C dX5_blamed_85 rfl rfl ?_
          exact j_xiret C hr hlocks rfl dX5_blamed_86 (Nat.le_of_ble_eq_true rfl) (Nat.le_of_ble_eq_true rfl)
  unfold f5_blamed
  refine j_aload_n 0 C dX5_blamed_0 rfl rfl ?_
  refine j_iload_n 1 C dX5_blamed_1 rfl rfl ?_
  refine j_callXVV [.int x1] (con5_needStory N x1) C hT ht hlocks mi5_needStory mv5_needStory lk5_91 (by decide) (ct_0 E _) rfl rfl rfl ⟨Nat.le_of_ble_eq_true rfl, Nat.le_of_ble_eq_true rfl, Nat.le_of_ble_eq_true rfl, Nat.le_of_ble_eq_true rfl, Nat.le_of_ble_eq_true rfl⟩ (Nat.le_of_ble_eq_true rfl) (Nat.le_of_ble_eq_true rfl) dX5_blamed_2 (fun σ2 => ?_)
  refine j_aload_n 0 C dX5_blamed_5 rfl rfl ?_
  refine j_get 1 C fl5_12 (by decide) (ct_0 E _) rfl dX5_blamed_6 ?_
  refine j_iload_n 1 C dX5_blamed_9 rfl rfl ?_
  refine j_callVI [.int x1] (con3_startsOnOwnPage N 56 x1 (Or.inl rfl)) C mi3_startsOnOwnPage mv3_startsOnOwnPage lk5_196 (P_lt (Or.inl rfl)) (ct_P E (Or.inl rfl) _) rfl rfl rfl ⟨Nat.le_of_ble_eq_true rfl, Nat.le_of_ble_eq_true rfl, Nat.le_of_ble_eq_true rfl, Nat.le_of_ble_eq_true rfl, Nat.le_of_ble_eq_true rfl⟩ dX5_blamed_10 (fun r10 σ10 => ?_)
  refine j_zeq 24 C dX5_blamed_13 (by decide) ?_ ?_
  · refine j_aload_n 0 C dX5_blamed_24 rfl rfl ?_
    refine j_get 1 C fl5_12 (by decide) (ct_0 E _) rfl dX5_blamed_25 ?_
    refine j_iload_n 1 C dX5_blamed_28 rfl rfl ?_
    refine j_callVI [.int x1] (con3_rankOf N 56 x1 (Or.inl rfl)) C mi3_rankOf mv3_rankOf lk5_129 (P_lt (Or.inl rfl)) (ct_P E (Or.inl rfl) _) rfl rfl rfl ⟨Nat.le_of_ble_eq_true rfl, Nat.le_of_ble_eq_true rfl, Nat.le_of_ble_eq_true rfl, Nat.le_of_ble_eq_true rfl, Nat.le_of_ble_eq_true rfl⟩ dX5_blamed_29 (fun r29 σ29 => ?_)
    refine j_iconst (v := 1) 1 C dX5_blamed_32 (by decide) ?_
    refine j_isub C dX5_blamed_33 ?_
    refine j_istore_n [(2, .int (r29 - 1)), (0, .ref (ea E 0)), (1, .int x1)] C dX5_blamed_34 rfl (by decide) rfl ?_
    refine j_sub [1, 2, 0] rfl (wL35 _ (fun σL35 => ?_) N (r29 - 1) σ29)
    exact j_throw C hT ht hlocks th5_163_165 dX5_blamed_93 dX5_blamed_96 dX5_blamed_97 dX5_blamed_100 ⟨Nat.le_of_ble_eq_true rfl, Nat.le_of_ble_eq_true rfl, Nat.le_of_ble_eq_true rfl, Nat.le_of_ble_eq_true rfl⟩ (Nat.le_of_ble_eq_true rfl) (Nat.le_of_ble_eq_true rfl)
  · exact j_throw C hT ht hlocks th5_163_165 dX5_blamed_16 dX5_blamed_19 dX5_blamed_20 dX5_blamed_23 ⟨Nat.le_of_ble_eq_true rfl, Nat.le_of_ble_eq_true rfl, Nat.le_of_ble_eq_true rfl, Nat.le_of_ble_eq_true rfl⟩ (Nat.le_of_ble_eq_true rfl) (Nat.le_of_ble_eq_true rfl)
set_option maxHeartbeats 4000000 in
set_option maxRecDepth 100000 in
theorem con5_linesIf (N : Nat) (x1 : Int32) (x2 : Int32) : CoXI yX5_linesIf cX5_linesIf 3 .int rm5_linesIf (fun E => [.ref (ea E 0), .int x1, .int x2]) (f5_linesIf N x1 x2) := by
  refine coXI_of (L := fun E => [(0, .ref (ea E 0)), (1, .int x1), (2, .int x2)]) (by decide) (fun _ => Nat.le_of_ble_eq_true rfl) (fun _ => rfl) ?_
  intro l E σ p e s m args below meth c C hr hlocks hT ht
  unfold f5_linesIf
  refine j_aload_n 0 C dX5_linesIf_0 rfl rfl ?_
  refine j_iload_n 1 C dX5_linesIf_1 rfl rfl ?_
  refine j_callXVV [.int x1] (con5_needStory N x1) C hT ht hlocks mi5_needStory mv5_needStory lk5_91 (by decide) (ct_0 E _) rfl rfl rfl ⟨Nat.le_of_ble_eq_true rfl, Nat.le_of_ble_eq_true rfl, Nat.le_of_ble_eq_true rfl, Nat.le_of_ble_eq_true rfl, Nat.le_of_ble_eq_true rfl⟩ (Nat.le_of_ble_eq_true rfl) (Nat.le_of_ble_eq_true rfl) dX5_linesIf_2 (fun σ2 => ?_)
  refine j_aload_n 0 C dX5_linesIf_5 rfl rfl ?_
  refine j_get 2 C fl5_24 (by decide) (ct_0 E _) rfl dX5_linesIf_6 ?_
  refine j_aload_n 0 C dX5_linesIf_9 rfl rfl ?_
  refine j_get 0 C fl5_20 (by decide) (ct_0 E _) rfl dX5_linesIf_10 ?_
  refine j_callVV [.ref (ea E 1)] (con1_copyFrom N 6 1 ⟨by decide, by decide⟩ ⟨by decide, by decide⟩) C mi1_copyFrom mv1_copyFrom lk5_199 (E_lt ⟨by decide, by decide⟩) (ct_E E ⟨by decide, by decide⟩ _) rfl rfl rfl ⟨Nat.le_of_ble_eq_true rfl, Nat.le_of_ble_eq_true rfl, Nat.le_of_ble_eq_true rfl, Nat.le_of_ble_eq_true rfl, Nat.le_of_ble_eq_true rfl⟩ dX5_linesIf_13 (fun σ13 => ?_)
  refine j_aload_n 0 C dX5_linesIf_16 rfl rfl ?_
  refine j_get 2 C fl5_24 (by decide) (ct_0 E _) rfl dX5_linesIf_17 ?_
  refine j_iload_n 1 C dX5_linesIf_20 rfl rfl ?_
  refine j_iload_n 2 C dX5_linesIf_21 rfl rfl ?_
  refine j_callVV [.int x1, .int x2] (con1_putLate N 6 x1 x2 ⟨by decide, by decide⟩) C mi1_putLate mv1_putLate lk5_98 (E_lt ⟨by decide, by decide⟩) (ct_E E ⟨by decide, by decide⟩ _) rfl rfl rfl ⟨Nat.le_of_ble_eq_true rfl, Nat.le_of_ble_eq_true rfl, Nat.le_of_ble_eq_true rfl, Nat.le_of_ble_eq_true rfl, Nat.le_of_ble_eq_true rfl⟩ dX5_linesIf_22 (fun σ22 => ?_)
  refine j_aload_n 0 C dX5_linesIf_25 rfl rfl ?_
  refine j_get 3 C fl5_21 (by decide) (ct_0 E _) rfl dX5_linesIf_26 ?_
  refine j_callVV [] (con3_layOut N 65 (Or.inr rfl)) C mi3_layOut mv3_layOut lk5_69 (P_lt (Or.inr rfl)) (ct_P E (Or.inr rfl) _) rfl rfl rfl ⟨Nat.le_of_ble_eq_true rfl, Nat.le_of_ble_eq_true rfl, Nat.le_of_ble_eq_true rfl, Nat.le_of_ble_eq_true rfl, Nat.le_of_ble_eq_true rfl⟩ dX5_linesIf_29 (fun σ29 => ?_)
  refine j_aload_n 0 C dX5_linesIf_32 rfl rfl ?_
  refine j_get 3 C fl5_21 (by decide) (ct_0 E _) rfl dX5_linesIf_33 ?_
  refine j_iload_n 1 C dX5_linesIf_36 rfl rfl ?_
  refine j_callVI [.int x1] (con3_linesOnPages N 65 x1 (Or.inr rfl)) C mi3_linesOnPages mv3_linesOnPages lk5_139 (P_lt (Or.inr rfl)) (ct_P E (Or.inr rfl) _) rfl rfl rfl ⟨Nat.le_of_ble_eq_true rfl, Nat.le_of_ble_eq_true rfl, Nat.le_of_ble_eq_true rfl, Nat.le_of_ble_eq_true rfl, Nat.le_of_ble_eq_true rfl⟩ dX5_linesIf_37 (fun r37 σ37 => ?_)
  exact j_xiret C hr hlocks rfl dX5_linesIf_40 (Nat.le_of_ble_eq_true rfl) (Nat.le_of_ble_eq_true rfl)
set_option maxHeartbeats 4000000 in
set_option maxRecDepth 100000 in
theorem con5_trim (N : Nat) (x1 : Int32) : CoXI yX5_trim cX5_trim 2 .int rm5_trim (fun E => [.ref (ea E 0), .int x1]) (f5_trim N x1) := by
  refine coXI_of (L := fun E => [(0, .ref (ea E 0)), (1, .int x1)]) (by decide) (fun _ => Nat.le_of_ble_eq_true rfl) (fun _ => rfl) ?_
  intro l E σ p e s m args below meth c C hr hlocks hT ht
  unfold f5_trim
  refine j_aload_n 0 C dX5_trim_0 rfl rfl ?_
  refine j_iload_n 1 C dX5_trim_1 rfl rfl ?_
  refine j_callXVV [.int x1] (con5_needStory N x1) C hT ht hlocks mi5_needStory mv5_needStory lk5_91 (by decide) (ct_0 E _) rfl rfl rfl ⟨Nat.le_of_ble_eq_true rfl, Nat.le_of_ble_eq_true rfl, Nat.le_of_ble_eq_true rfl, Nat.le_of_ble_eq_true rfl, Nat.le_of_ble_eq_true rfl⟩ (Nat.le_of_ble_eq_true rfl) (Nat.le_of_ble_eq_true rfl) dX5_trim_2 (fun σ2 => ?_)
  refine j_aload_n 0 C dX5_trim_5 rfl rfl ?_
  refine j_get 1 C fl5_12 (by decide) (ct_0 E _) rfl dX5_trim_6 ?_
  refine j_iload_n 1 C dX5_trim_9 rfl rfl ?_
  refine j_callVI [.int x1] (con3_isLeftOut N 56 x1 (Or.inl rfl)) C mi3_isLeftOut mv3_isLeftOut lk5_190 (P_lt (Or.inl rfl)) (ct_P E (Or.inl rfl) _) rfl rfl rfl ⟨Nat.le_of_ble_eq_true rfl, Nat.le_of_ble_eq_true rfl, Nat.le_of_ble_eq_true rfl, Nat.le_of_ble_eq_true rfl, Nat.le_of_ble_eq_true rfl⟩ dX5_trim_10 (fun r10 σ10 => ?_)
  refine j_zeq 24 C dX5_trim_13 (by decide) ?_ ?_
  · refine j_iconst (v := 0) 0 C dX5_trim_24 (by decide) ?_
    refine j_aload_n 0 C dX5_trim_25 rfl rfl ?_
    refine j_get 0 C fl5_20 (by decide) (ct_0 E _) rfl dX5_trim_26 ?_
    refine j_iload_n 1 C dX5_trim_29 rfl rfl ?_
    refine j_iconst (v := 3) 3 C dX5_trim_30 (by decide) ?_
    refine j_callVI [.int x1, .int 3] (con1_storyNumber N 1 x1 3 ⟨by decide, by decide⟩) C mi1_storyNumber mv1_storyNumber lk5_83 (E_lt ⟨by decide, by decide⟩) (ct_E E ⟨by decide, by decide⟩ _) rfl rfl rfl ⟨Nat.le_of_ble_eq_true rfl, Nat.le_of_ble_eq_true rfl, Nat.le_of_ble_eq_true rfl, Nat.le_of_ble_eq_true rfl, Nat.le_of_ble_eq_true rfl⟩ dX5_trim_31 (fun r31 σ31 => ?_)
    refine j_aload_n 0 C dX5_trim_34 rfl rfl ?_
    refine j_get 1 C fl5_12 (by decide) (ct_0 E _) rfl dX5_trim_35 ?_
    refine j_iload_n 1 C dX5_trim_38 rfl rfl ?_
    refine j_callVI [.int x1] (con3_linesAtStart N 56 x1 (Or.inl rfl)) C mi3_linesAtStart mv3_linesAtStart lk5_202 (P_lt (Or.inl rfl)) (ct_P E (Or.inl rfl) _) rfl rfl rfl ⟨Nat.le_of_ble_eq_true rfl, Nat.le_of_ble_eq_true rfl, Nat.le_of_ble_eq_true rfl, Nat.le_of_ble_eq_true rfl, Nat.le_of_ble_eq_true rfl⟩ dX5_trim_39 (fun r39 σ39 => ?_)
    refine j_isub C dX5_trim_42 ?_
    refine j_max C lm5_205 ⟨Nat.le_of_ble_eq_true rfl, Nat.le_of_ble_eq_true rfl, Nat.le_of_ble_eq_true rfl, Nat.le_of_ble_eq_true rfl⟩ dX5_trim_43 ?_
    exact j_xiret C hr hlocks rfl dX5_trim_46 (Nat.le_of_ble_eq_true rfl) (Nat.le_of_ble_eq_true rfl)
  · exact j_throw C hT ht hlocks th5_163_165 dX5_trim_16 dX5_trim_19 dX5_trim_20 dX5_trim_23 ⟨Nat.le_of_ble_eq_true rfl, Nat.le_of_ble_eq_true rfl, Nat.le_of_ble_eq_true rfl, Nat.le_of_ble_eq_true rfl⟩ (Nat.le_of_ble_eq_true rfl) (Nat.le_of_ble_eq_true rfl)
set_option maxHeartbeats 4000000 in
set_option maxRecDepth 100000 in
theorem con5_count (N : Nat) (x1 : Int32) : CoXI yX5_count cX5_count 2 .int rm5_count (fun E => [.ref (ea E 0), .int x1]) (f5_count N x1) := by
  refine coXI_of (L := fun E => [(0, .ref (ea E 0)), (1, .int x1)]) (by decide) (fun _ => Nat.le_of_ble_eq_true rfl) (fun _ => rfl) ?_
  intro l E σ p e s m args below meth c C hr hlocks hT ht
  unfold f5_count
  refine j_iload_n 1 C dX5_count_0 rfl rfl ?_
  refine j_ite (fun q1_0 => ?_) (fun q1_0 => ?_)
  · refine j_tin 48 C dX5_count_1 q1_0 (by decide) (by decide) rfl (by decide) ?_
    refine j_aload_n 0 C dX5_count_48 rfl rfl ?_
    refine j_get 0 C fl5_20 (by decide) (ct_0 E _) rfl dX5_count_49 ?_
    refine j_callVI [] (con1_storyCount N 1 ⟨by decide, by decide⟩) C mi1_storyCount mv1_storyCount lk5_122 (E_lt ⟨by decide, by decide⟩) (ct_E E ⟨by decide, by decide⟩ _) rfl rfl rfl ⟨Nat.le_of_ble_eq_true rfl, Nat.le_of_ble_eq_true rfl, Nat.le_of_ble_eq_true rfl, Nat.le_of_ble_eq_true rfl, Nat.le_of_ble_eq_true rfl⟩ dX5_count_52 (fun r52 σ52 => ?_)
    exact j_xiret C hr hlocks rfl dX5_count_55 (Nat.le_of_ble_eq_true rfl) (Nat.le_of_ble_eq_true rfl)
  refine j_ite (fun q1_1 => ?_) (fun q1_1 => ?_)
  · refine j_tin 56 C dX5_count_1 q1_1 (by decide) (by decide) rfl (by decide) ?_
    refine j_aload_n 0 C dX5_count_56 rfl rfl ?_
    refine j_get 0 C fl5_20 (by decide) (ct_0 E _) rfl dX5_count_57 ?_
    refine j_callVI [] (con1_advertisementCount N 1 ⟨by decide, by decide⟩) C mi1_advertisementCount mv1_advertisementCount lk5_126 (E_lt ⟨by decide, by decide⟩) (ct_E E ⟨by decide, by decide⟩ _) rfl rfl rfl ⟨Nat.le_of_ble_eq_true rfl, Nat.le_of_ble_eq_true rfl, Nat.le_of_ble_eq_true rfl, Nat.le_of_ble_eq_true rfl, Nat.le_of_ble_eq_true rfl⟩ dX5_count_60 (fun r60 σ60 => ?_)
    exact j_xiret C hr hlocks rfl dX5_count_63 (Nat.le_of_ble_eq_true rfl) (Nat.le_of_ble_eq_true rfl)
  refine j_ite (fun q1_2 => ?_) (fun q1_2 => ?_)
  · refine j_tin 64 C dX5_count_1 q1_2 (by decide) (by decide) rfl (by decide) ?_
    refine j_aload_n 0 C dX5_count_64 rfl rfl ?_
    refine j_get 1 C fl5_12 (by decide) (ct_0 E _) rfl dX5_count_65 ?_
    refine j_callVI [] (con3_leftOutCount N 56 (Or.inl rfl)) C mi3_leftOutCount mv3_leftOutCount lk5_210 (P_lt (Or.inl rfl)) (ct_P E (Or.inl rfl) _) rfl rfl rfl ⟨Nat.le_of_ble_eq_true rfl, Nat.le_of_ble_eq_true rfl, Nat.le_of_ble_eq_true rfl, Nat.le_of_ble_eq_true rfl, Nat.le_of_ble_eq_true rfl⟩ dX5_count_68 (fun r68 σ68 => ?_)
    exact j_xiret C hr hlocks rfl dX5_count_71 (Nat.le_of_ble_eq_true rfl) (Nat.le_of_ble_eq_true rfl)
  refine j_ite (fun q1_3 => ?_) (fun q1_3 => ?_)
  · refine j_tin 72 C dX5_count_1 q1_3 (by decide) (by decide) rfl (by decide) ?_
    refine j_aload_n 0 C dX5_count_72 rfl rfl ?_
    refine j_get 1 C fl5_12 (by decide) (ct_0 E _) rfl dX5_count_73 ?_
    refine j_callVI [] (con3_bumpedCount N 56 (Or.inl rfl)) C mi3_bumpedCount mv3_bumpedCount lk5_213 (P_lt (Or.inl rfl)) (ct_P E (Or.inl rfl) _) rfl rfl rfl ⟨Nat.le_of_ble_eq_true rfl, Nat.le_of_ble_eq_true rfl, Nat.le_of_ble_eq_true rfl, Nat.le_of_ble_eq_true rfl, Nat.le_of_ble_eq_true rfl⟩ dX5_count_76 (fun r76 σ76 => ?_)
    exact j_xiret C hr hlocks rfl dX5_count_79 (Nat.le_of_ble_eq_true rfl) (Nat.le_of_ble_eq_true rfl)
  refine j_ite (fun q1_4 => ?_) (fun q1_4 => ?_)
  · refine j_tin 80 C dX5_count_1 q1_4 (by decide) (by decide) rfl (by decide) ?_
    refine j_aload_n 0 C dX5_count_80 rfl rfl ?_
    refine j_get 1 C fl5_12 (by decide) (ct_0 E _) rfl dX5_count_81 ?_
    refine j_callVI [] (con3_jumpCount N 56 (Or.inl rfl)) C mi3_jumpCount mv3_jumpCount lk5_216 (P_lt (Or.inl rfl)) (ct_P E (Or.inl rfl) _) rfl rfl rfl ⟨Nat.le_of_ble_eq_true rfl, Nat.le_of_ble_eq_true rfl, Nat.le_of_ble_eq_true rfl, Nat.le_of_ble_eq_true rfl, Nat.le_of_ble_eq_true rfl⟩ dX5_count_84 (fun r84 σ84 => ?_)
    exact j_xiret C hr hlocks rfl dX5_count_87 (Nat.le_of_ble_eq_true rfl) (Nat.le_of_ble_eq_true rfl)
  refine j_ite (fun q1_5 => ?_) (fun q1_5 => ?_)
  · refine j_tin 88 C dX5_count_1 q1_5 (by decide) (by decide) rfl (by decide) ?_
    refine j_aload_n 0 C dX5_count_88 rfl rfl ?_
    refine j_get 1 C fl5_12 (by decide) (ct_0 E _) rfl dX5_count_89 ?_
    refine j_callVI [] (con3_allLinesOnPages N 56 (Or.inl rfl)) C mi3_allLinesOnPages mv3_allLinesOnPages lk5_219 (P_lt (Or.inl rfl)) (ct_P E (Or.inl rfl) _) rfl rfl rfl ⟨Nat.le_of_ble_eq_true rfl, Nat.le_of_ble_eq_true rfl, Nat.le_of_ble_eq_true rfl, Nat.le_of_ble_eq_true rfl, Nat.le_of_ble_eq_true rfl⟩ dX5_count_92 (fun r92 σ92 => ?_)
    exact j_xiret C hr hlocks rfl dX5_count_95 (Nat.le_of_ble_eq_true rfl) (Nat.le_of_ble_eq_true rfl)
  refine j_ite (fun q1_6 => ?_) (fun q1_6 => ?_)
  · refine j_tin 96 C dX5_count_1 q1_6 (by decide) (by decide) rfl (by decide) ?_
    refine j_aload_n 0 C dX5_count_96 rfl rfl ?_
    refine j_get 1 C fl5_12 (by decide) (ct_0 E _) rfl dX5_count_97 ?_
    refine j_callVI [] (con3_allLinesCut N 56 (Or.inl rfl)) C mi3_allLinesCut mv3_allLinesCut lk5_222 (P_lt (Or.inl rfl)) (ct_P E (Or.inl rfl) _) rfl rfl rfl ⟨Nat.le_of_ble_eq_true rfl, Nat.le_of_ble_eq_true rfl, Nat.le_of_ble_eq_true rfl, Nat.le_of_ble_eq_true rfl, Nat.le_of_ble_eq_true rfl⟩ dX5_count_100 (fun r100 σ100 => ?_)
    exact j_xiret C hr hlocks rfl dX5_count_103 (Nat.le_of_ble_eq_true rfl) (Nat.le_of_ble_eq_true rfl)
  refine j_ite (fun q1_7 => ?_) (fun q1_7 => ?_)
  · refine j_tin 104 C dX5_count_1 q1_7 (by decide) (by decide) rfl (by decide) ?_
    refine j_aload_n 0 C dX5_count_104 rfl rfl ?_
    refine j_get 0 C fl5_20 (by decide) (ct_0 E _) rfl dX5_count_105 ?_
    refine j_callVI [] (con1_allPrices N 1 ⟨by decide, by decide⟩) C mi1_allPrices mv1_allPrices lk5_225 (E_lt ⟨by decide, by decide⟩) (ct_E E ⟨by decide, by decide⟩ _) rfl rfl rfl ⟨Nat.le_of_ble_eq_true rfl, Nat.le_of_ble_eq_true rfl, Nat.le_of_ble_eq_true rfl, Nat.le_of_ble_eq_true rfl, Nat.le_of_ble_eq_true rfl⟩ dX5_count_108 (fun r108 σ108 => ?_)
    exact j_xiret C hr hlocks rfl dX5_count_111 (Nat.le_of_ble_eq_true rfl) (Nat.le_of_ble_eq_true rfl)
  refine j_tout 112 C dX5_count_1 (by have h0 := lv_neT q1_0 (a := 0) (by decide); have h1 := lv_neT q1_1 (a := 1) (by decide); have h2 := lv_neT q1_2 (a := 2) (by decide); have h3 := lv_neT q1_3 (a := 3) (by decide); have h4 := lv_neT q1_4 (a := 4) (by decide); have h5 := lv_neT q1_5 (a := 5) (by decide); have h6 := lv_neT q1_6 (a := 6) (by decide); have h7 := lv_neT q1_7 (a := 7) (by decide); omega) (by decide) ?_
  exact j_throw C hT ht hlocks th5_106_108 dX5_count_112 dX5_count_115 dX5_count_116 dX5_count_119 ⟨Nat.le_of_ble_eq_true rfl, Nat.le_of_ble_eq_true rfl, Nat.le_of_ble_eq_true rfl, Nat.le_of_ble_eq_true rfl⟩ (Nat.le_of_ble_eq_true rfl) (Nat.le_of_ble_eq_true rfl)
set_option maxHeartbeats 4000000 in
set_option maxRecDepth 100000 in
theorem con5_needPage (N : Nat) (x0 : Int32) : CoXV yX5_needPage cX5_needPage 1 rm5_needPage (fun E => [.int x0]) (f5_needPage N x0) := by
  refine coXV_of (L := fun E => [(0, .int x0)]) (by decide) (fun _ => Nat.le_of_ble_eq_true rfl) (fun _ => rfl) ?_
  intro l E σ p e s m args below meth c C hr hlocks hT ht
  unfold f5_needPage
  refine j_iload_n 0 C dX5_needPage_0 rfl rfl ?_
  refine j_callSI [.int x0] (con5_isPage N x0) C mi5_isPage ms5_isPage lk5_361 rfl rfl ⟨Nat.le_of_ble_eq_true rfl, Nat.le_of_ble_eq_true rfl, Nat.le_of_ble_eq_true rfl, Nat.le_of_ble_eq_true rfl, Nat.le_of_ble_eq_true rfl⟩ dX5_needPage_1 (fun r1 σ1 => ?_)
  refine j_zne 15 C dX5_needPage_4 (by decide) ?_ ?_
  · exact j_xvret C hr hlocks dX5_needPage_15 (Nat.le_of_ble_eq_true rfl) (Nat.le_of_ble_eq_true rfl)
  · exact j_throw C hT ht hlocks th5_169_171 dX5_needPage_7 dX5_needPage_10 dX5_needPage_11 dX5_needPage_14 ⟨Nat.le_of_ble_eq_true rfl, Nat.le_of_ble_eq_true rfl, Nat.le_of_ble_eq_true rfl, Nat.le_of_ble_eq_true rfl⟩ (Nat.le_of_ble_eq_true rfl) (Nat.le_of_ble_eq_true rfl)
set_option maxHeartbeats 4000000 in
set_option maxRecDepth 100000 in
theorem con5_cellCount (N : Nat) (x1 : Int32) (x2 : Int32) : CoXI yX5_cellCount cX5_cellCount 3 .int rm5_cellCount (fun E => [.ref (ea E 0), .int x1, .int x2]) (f5_cellCount N x1 x2) := by
  refine coXI_of (L := fun E => [(0, .ref (ea E 0)), (1, .int x1), (2, .int x2)]) (by decide) (fun _ => Nat.le_of_ble_eq_true rfl) (fun _ => rfl) ?_
  intro l E σ p e s m args below meth c C hr hlocks hT ht
  unfold f5_cellCount
  refine j_iload_n 1 C dX5_cellCount_0 rfl rfl ?_
  refine j_callXSV [.int x1] (con5_needPage N x1) C hT ht hlocks mi5_needPage ms5_needPage lk5_228 rfl rfl ⟨Nat.le_of_ble_eq_true rfl, Nat.le_of_ble_eq_true rfl, Nat.le_of_ble_eq_true rfl, Nat.le_of_ble_eq_true rfl, Nat.le_of_ble_eq_true rfl⟩ (Nat.le_of_ble_eq_true rfl) (Nat.le_of_ble_eq_true rfl) dX5_cellCount_1 (fun σ1 => ?_)
  refine j_iload_n 2 C dX5_cellCount_4 rfl rfl ?_
  refine j_zlt 14 C dX5_cellCount_5 (by decide) ?_ ?_
  · exact j_throw C hT ht hlocks th5_106_108 dX5_cellCount_14 dX5_cellCount_17 dX5_cellCount_18 dX5_cellCount_21 ⟨Nat.le_of_ble_eq_true rfl, Nat.le_of_ble_eq_true rfl, Nat.le_of_ble_eq_true rfl, Nat.le_of_ble_eq_true rfl⟩ (Nat.le_of_ble_eq_true rfl) (Nat.le_of_ble_eq_true rfl)
  · refine j_iload_n 2 C dX5_cellCount_8 rfl rfl ?_
    refine j_bipush (v := 8) 8 C dX5_cellCount_9 (by decide) ?_
    refine j_ile 22 C dX5_cellCount_11 (by decide) ?_ ?_
    · refine j_aload_n 0 C dX5_cellCount_22 rfl rfl ?_
      refine j_get 1 C fl5_12 (by decide) (ct_0 E _) rfl dX5_cellCount_23 ?_
      refine j_iload_n 1 C dX5_cellCount_26 rfl rfl ?_
      refine j_iload_n 2 C dX5_cellCount_27 rfl rfl ?_
      refine j_callVI [.int x1, .int x2] (con3_cellsOfKind N 56 x1 x2 (Or.inl rfl)) C mi3_cellsOfKind mv3_cellsOfKind lk5_231 (P_lt (Or.inl rfl)) (ct_P E (Or.inl rfl) _) rfl rfl rfl ⟨Nat.le_of_ble_eq_true rfl, Nat.le_of_ble_eq_true rfl, Nat.le_of_ble_eq_true rfl, Nat.le_of_ble_eq_true rfl, Nat.le_of_ble_eq_true rfl⟩ dX5_cellCount_28 (fun r28 σ28 => ?_)
      exact j_xiret C hr hlocks rfl dX5_cellCount_31 (Nat.le_of_ble_eq_true rfl) (Nat.le_of_ble_eq_true rfl)
    · exact j_throw C hT ht hlocks th5_106_108 dX5_cellCount_14 dX5_cellCount_17 dX5_cellCount_18 dX5_cellCount_21 ⟨Nat.le_of_ble_eq_true rfl, Nat.le_of_ble_eq_true rfl, Nat.le_of_ble_eq_true rfl, Nat.le_of_ble_eq_true rfl⟩ (Nat.le_of_ble_eq_true rfl) (Nat.le_of_ble_eq_true rfl)
set_option maxHeartbeats 4000000 in
set_option maxRecDepth 100000 in
theorem con5_isSound (N : Nat) : ConI yX5_isSound cX5_isSound 2 .boolean rm5_isSound (fun E => [.ref (ea E 0)]) (f5_isSound N) := by
  refine conI_of (L := fun E => [(0, .ref (ea E 0))]) (by decide) (fun _ => Nat.le_of_ble_eq_true rfl) (fun _ => rfl) ?_
  intro l E σ p e s m args below meth c C hr hlocks
  have wL29 : ∀ (K29 : Hp → Option (Int32 × Hp)), (∀ (σ : Hp), J E 2 p l e rm5_isSound s m args below meth c (QI E below args s rm5_isSound.cells rm5_isSound.slots) (K29 σ) 65 [] [] σ 0 0) → ∀ (n29 : Nat) (x1 : Int32) (σ : Hp), J E 2 p l e rm5_isSound s m args below meth c (QI E below args s rm5_isSound.cells rm5_isSound.slots) (f5_isSound_L29 N K29 n29 x1 σ) 29 [(0, .ref (ea E 0)), (1, .int x1)] [] σ 0 0 := by
    intro K29 HK29 n29
    induction n29 with
    | zero => intro x1 σ; exact j_none
    | succ n29 ih29 =>
      have wJ59 : ∀ (x1 : Int32) (σ : Hp), J E 2 p l e rm5_isSound s m args below meth c (QI E below args s rm5_isSound.cells rm5_isSound.slots) (f5_isSound_J59 N K29 (f5_isSound_L29 N K29 n29) x1 σ) 59 [(0, .ref (ea E 0)), (1, .int x1)] [] σ 0 0 := by
        intro x1 σ
        unfold f5_isSound_J59
        refine j_iinc 1 1 [(1, .int (x1 + 1)), (0, .ref (ea E 0))] C dX5_isSound_59 rfl rfl (by decide) rfl ?_
        refine j_goto 29 C dX5_isSound_62 (by decide) ?_
        exact j_sub [1, 0] rfl (ih29 (x1 + 1) σ)
      intro x1 σ
      show J E 2 p l e rm5_isSound s m args below meth c (QI E below args s rm5_isSound.cells rm5_isSound.slots) (f5_isSound_B29 N K29 (f5_isSound_L29 N K29 n29) x1 σ) 29 [(0, .ref (ea E 0)), (1, .int x1)] [] σ 0 0
      unfold f5_isSound_B29
      refine j_iload_n 1 C dX5_isSound_29 rfl rfl ?_
      refine j_bipush (v := 12) 12 C dX5_isSound_30 (by decide) ?_
      refine j_ige 65 C dX5_isSound_32 (by decide) ?_ ?_
      · exact j_sub [] rfl (HK29 σ)
      · refine j_aload_n 0 C dX5_isSound_35 rfl rfl ?_
        refine j_get 0 C fl5_20 (by decide) (ct_0 E _) rfl dX5_isSound_36 ?_
        refine j_iload_n 1 C dX5_isSound_39 rfl rfl ?_
        refine j_callVI [.int x1] (con1_hasStory N 1 x1 ⟨by decide, by decide⟩) C mi1_hasStory mv1_hasStory lk5_255 (E_lt ⟨by decide, by decide⟩) (ct_E E ⟨by decide, by decide⟩ _) rfl rfl rfl ⟨Nat.le_of_ble_eq_true rfl, Nat.le_of_ble_eq_true rfl, Nat.le_of_ble_eq_true rfl, Nat.le_of_ble_eq_true rfl, Nat.le_of_ble_eq_true rfl⟩ dX5_isSound_40 (fun r40 σ40 => ?_)
        refine j_zeq 59 C dX5_isSound_43 (by decide) ?_ ?_
        · exact j_sub [0, 1] rfl (wJ59 x1 σ40)
        · refine j_aload_n 0 C dX5_isSound_46 rfl rfl ?_
          refine j_get 1 C fl5_12 (by decide) (ct_0 E _) rfl dX5_isSound_47 ?_
          refine j_iload_n 1 C dX5_isSound_50 rfl rfl ?_
          refine j_callVI [.int x1] (con3_hasSoundLines N 56 x1 (Or.inl rfl)) C mi3_hasSoundLines mv3_hasSoundLines lk5_258 (P_lt (Or.inl rfl)) (ct_P E (Or.inl rfl) _) rfl rfl rfl ⟨Nat.le_of_ble_eq_true rfl, Nat.le_of_ble_eq_true rfl, Nat.le_of_ble_eq_true rfl, Nat.le_of_ble_eq_true rfl, Nat.le_of_ble_eq_true rfl⟩ dX5_isSound_51 (fun r51 σ51 => ?_)
          refine j_zne 59 C dX5_isSound_54 (by decide) ?_ ?_
          · exact j_sub [0, 1] rfl (wJ59 x1 σ51)
          · refine j_iconst (v := 0) 0 C dX5_isSound_57 (by decide) ?_
            exact j_iret C hr hlocks rfl dX5_isSound_58 (Nat.le_of_ble_eq_true rfl) (Nat.le_of_ble_eq_true rfl)
  unfold f5_isSound
  refine j_aload_n 0 C dX5_isSound_0 rfl rfl ?_
  refine j_get 1 C fl5_12 (by decide) (ct_0 E _) rfl dX5_isSound_1 ?_
  refine j_callVI [] (con3_cellsOfParts N 56 (Or.inl rfl)) C mi3_cellsOfParts mv3_cellsOfParts lk5_246 (P_lt (Or.inl rfl)) (ct_P E (Or.inl rfl) _) rfl rfl rfl ⟨Nat.le_of_ble_eq_true rfl, Nat.le_of_ble_eq_true rfl, Nat.le_of_ble_eq_true rfl, Nat.le_of_ble_eq_true rfl, Nat.le_of_ble_eq_true rfl⟩ dX5_isSound_4 (fun r4 σ4 => ?_)
  refine j_aload_n 0 C dX5_isSound_7 rfl rfl ?_
  refine j_get 0 C fl5_20 (by decide) (ct_0 E _) rfl dX5_isSound_8 ?_
  refine j_callVI [] (con1_cellsOfAdvertisements N 1 ⟨by decide, by decide⟩) C mi1_cellsOfAdvertisements mv1_cellsOfAdvertisements lk5_249 (E_lt ⟨by decide, by decide⟩) (ct_E E ⟨by decide, by decide⟩ _) rfl rfl rfl ⟨Nat.le_of_ble_eq_true rfl, Nat.le_of_ble_eq_true rfl, Nat.le_of_ble_eq_true rfl, Nat.le_of_ble_eq_true rfl, Nat.le_of_ble_eq_true rfl⟩ dX5_isSound_11 (fun r11 σ11 => ?_)
  refine j_iadd C dX5_isSound_14 ?_
  refine j_aload_n 0 C dX5_isSound_15 rfl rfl ?_
  refine j_get 1 C fl5_12 (by decide) (ct_0 E _) rfl dX5_isSound_16 ?_
  refine j_callVI [] (con3_cellsNotFree N 56 (Or.inl rfl)) C mi3_cellsNotFree mv3_cellsNotFree lk5_252 (P_lt (Or.inl rfl)) (ct_P E (Or.inl rfl) _) rfl rfl rfl ⟨Nat.le_of_ble_eq_true rfl, Nat.le_of_ble_eq_true rfl, Nat.le_of_ble_eq_true rfl, Nat.le_of_ble_eq_true rfl, Nat.le_of_ble_eq_true rfl⟩ dX5_isSound_19 (fun r19 σ19 => ?_)
  refine j_ieq 27 C dX5_isSound_22 (by decide) ?_ ?_
  · refine j_iconst (v := 0) 0 C dX5_isSound_27 (by decide) ?_
    refine j_istore_n [(1, .int 0), (0, .ref (ea E 0))] C dX5_isSound_28 rfl (by decide) rfl ?_
    refine j_sub [1, 0] rfl (wL29 _ (fun σL29 => ?_) N 0 σ19)
    refine j_iconst (v := 1) 1 C dX5_isSound_65 (by decide) ?_
    exact j_iret C hr hlocks rfl dX5_isSound_66 (Nat.le_of_ble_eq_true rfl) (Nat.le_of_ble_eq_true rfl)
  · refine j_iconst (v := 0) 0 C dX5_isSound_25 (by decide) ?_
    exact j_iret C hr hlocks rfl dX5_isSound_26 (Nat.le_of_ble_eq_true rfl) (Nat.le_of_ble_eq_true rfl)
set_option maxHeartbeats 4000000 in
set_option maxRecDepth 100000 in
theorem con5_needShelfPlace (N : Nat) (x0 : Int32) (x1 : Int32) : CoXV yX5_needShelfPlace cX5_needShelfPlace 2 rm5_needShelfPlace (fun E => [.int x0, .int x1]) (f5_needShelfPlace N x0 x1) := by
  refine coXV_of (L := fun E => [(0, .int x0), (1, .int x1)]) (by decide) (fun _ => Nat.le_of_ble_eq_true rfl) (fun _ => rfl) ?_
  intro l E σ p e s m args below meth c C hr hlocks hT ht
  unfold f5_needShelfPlace
  refine j_iload_n 0 C dX5_needShelfPlace_0 rfl rfl ?_
  refine j_zlt 18 C dX5_needShelfPlace_1 (by decide) ?_ ?_
  · exact j_throw C hT ht hlocks th5_169_171 dX5_needShelfPlace_18 dX5_needShelfPlace_21 dX5_needShelfPlace_22 dX5_needShelfPlace_25 ⟨Nat.le_of_ble_eq_true rfl, Nat.le_of_ble_eq_true rfl, Nat.le_of_ble_eq_true rfl, Nat.le_of_ble_eq_true rfl⟩ (Nat.le_of_ble_eq_true rfl) (Nat.le_of_ble_eq_true rfl)
  · refine j_iload_n 0 C dX5_needShelfPlace_4 rfl rfl ?_
    refine j_iconst (v := 3) 3 C dX5_needShelfPlace_5 (by decide) ?_
    refine j_ige 18 C dX5_needShelfPlace_6 (by decide) ?_ ?_
    · exact j_throw C hT ht hlocks th5_169_171 dX5_needShelfPlace_18 dX5_needShelfPlace_21 dX5_needShelfPlace_22 dX5_needShelfPlace_25 ⟨Nat.le_of_ble_eq_true rfl, Nat.le_of_ble_eq_true rfl, Nat.le_of_ble_eq_true rfl, Nat.le_of_ble_eq_true rfl⟩ (Nat.le_of_ble_eq_true rfl) (Nat.le_of_ble_eq_true rfl)
    · refine j_iload_n 1 C dX5_needShelfPlace_9 rfl rfl ?_
      refine j_zlt 18 C dX5_needShelfPlace_10 (by decide) ?_ ?_
      · exact j_throw C hT ht hlocks th5_169_171 dX5_needShelfPlace_18 dX5_needShelfPlace_21 dX5_needShelfPlace_22 dX5_needShelfPlace_25 ⟨Nat.le_of_ble_eq_true rfl, Nat.le_of_ble_eq_true rfl, Nat.le_of_ble_eq_true rfl, Nat.le_of_ble_eq_true rfl⟩ (Nat.le_of_ble_eq_true rfl) (Nat.le_of_ble_eq_true rfl)
      · refine j_iload_n 1 C dX5_needShelfPlace_13 rfl rfl ?_
        refine j_iconst (v := 4) 4 C dX5_needShelfPlace_14 (by decide) ?_
        refine j_ilt 26 C dX5_needShelfPlace_15 (by decide) ?_ ?_
        · exact j_xvret C hr hlocks dX5_needShelfPlace_26 (Nat.le_of_ble_eq_true rfl) (Nat.le_of_ble_eq_true rfl)
        · exact j_throw C hT ht hlocks th5_169_171 dX5_needShelfPlace_18 dX5_needShelfPlace_21 dX5_needShelfPlace_22 dX5_needShelfPlace_25 ⟨Nat.le_of_ble_eq_true rfl, Nat.le_of_ble_eq_true rfl, Nat.le_of_ble_eq_true rfl, Nat.le_of_ble_eq_true rfl⟩ (Nat.le_of_ble_eq_true rfl) (Nat.le_of_ble_eq_true rfl)
set_option maxHeartbeats 4000000 in
set_option maxRecDepth 100000 in
theorem con5_layDown (N : Nat) (x1 : Int32) (x2 : Int32) (x3 : Int32) (x4 : Int32) : CoXI yX5_layDown cX5_layDown 6 .int rm5_layDown (fun E => [.ref (ea E 0), .int x1, .int x2, .int x3, .int x4]) (f5_layDown N x1 x2 x3 x4) := by
  refine coXI_of (L := fun E => [(0, .ref (ea E 0)), (1, .int x1), (2, .int x2), (3, .int x3), (4, .int x4)]) (by decide) (fun _ => Nat.le_of_ble_eq_true rfl) (fun _ => rfl) ?_
  intro l E σ p e s m args below meth c C hr hlocks hT ht
  have wJ76 : ∀ (σ : Hp), J E 6 p l e rm5_layDown s m args below meth c (XI E below args s rm5_layDown.cells rm5_layDown.slots) (f5_layDown_J76 N x1 x2 x3 x4 σ) 76 [(0, .ref (ea E 0)), (1, .int x1)] [] σ 2 12 := by
    intro σ
    unfold f5_layDown_J76
    refine j_aload_n 0 C dX5_layDown_76 rfl rfl ?_
    refine j_get 6 C fl5_43 (by decide) (ct_0 E _) rfl dX5_layDown_77 ?_
    refine j_iload_n 1 C dX5_layDown_80 rfl rfl ?_
    refine j_callVI [.int x1] (con4_filledPlaces N x1) C mi4_filledPlaces mv4_filledPlaces lk5_279 (by decide) (ct_76 E _) rfl rfl rfl ⟨Nat.le_of_ble_eq_true rfl, Nat.le_of_ble_eq_true rfl, Nat.le_of_ble_eq_true rfl, Nat.le_of_ble_eq_true rfl, Nat.le_of_ble_eq_true rfl⟩ dX5_layDown_81 (fun r81 σ81 => ?_)
    exact j_xiret C hr hlocks rfl dX5_layDown_84 (Nat.le_of_ble_eq_true rfl) (Nat.le_of_ble_eq_true rfl)
  unfold f5_layDown
  refine j_iload_n 1 C dX5_layDown_0 rfl rfl ?_
  refine j_iload_n 2 C dX5_layDown_1 rfl rfl ?_
  refine j_callXSV [.int x1, .int x2] (con5_needShelfPlace N x1 x2) C hT ht hlocks mi5_needShelfPlace ms5_needShelfPlace lk5_261 rfl rfl ⟨Nat.le_of_ble_eq_true rfl, Nat.le_of_ble_eq_true rfl, Nat.le_of_ble_eq_true rfl, Nat.le_of_ble_eq_true rfl, Nat.le_of_ble_eq_true rfl⟩ (Nat.le_of_ble_eq_true rfl) (Nat.le_of_ble_eq_true rfl) dX5_layDown_2 (fun σ2 => ?_)
  refine j_aload_n 0 C dX5_layDown_5 rfl rfl ?_
  refine j_iload_n 3 C dX5_layDown_6 rfl rfl ?_
  refine j_iload 4 C dX5_layDown_7 rfl ?_
  refine j_callXVV [.int x3, .int x4] (con5_needEntry N x3 x4) C hT ht hlocks mi5_needEntry mv5_needEntry lk5_112 (by decide) (ct_0 E _) rfl rfl rfl ⟨Nat.le_of_ble_eq_true rfl, Nat.le_of_ble_eq_true rfl, Nat.le_of_ble_eq_true rfl, Nat.le_of_ble_eq_true rfl, Nat.le_of_ble_eq_true rfl⟩ (Nat.le_of_ble_eq_true rfl) (Nat.le_of_ble_eq_true rfl) dX5_layDown_9 (fun σ9 => ?_)
  refine j_aload_n 0 C dX5_layDown_12 rfl rfl ?_
  refine j_get 6 C fl5_43 (by decide) (ct_0 E _) rfl dX5_layDown_13 ?_
  refine j_iload_n 1 C dX5_layDown_16 rfl rfl ?_
  refine j_iload_n 3 C dX5_layDown_17 rfl rfl ?_
  refine j_callVI [.int x1, .int x3] (con4_takes N x1 x3) C mi4_takes mv4_takes lk5_265 (by decide) (ct_76 E _) rfl rfl rfl ⟨Nat.le_of_ble_eq_true rfl, Nat.le_of_ble_eq_true rfl, Nat.le_of_ble_eq_true rfl, Nat.le_of_ble_eq_true rfl, Nat.le_of_ble_eq_true rfl⟩ dX5_layDown_18 (fun r18 σ18 => ?_)
  refine j_zne 32 C dX5_layDown_21 (by decide) ?_ ?_
  · refine j_iload_n 1 C dX5_layDown_32 rfl rfl ?_
    refine j_iconst (v := 4) 4 C dX5_layDown_33 (by decide) ?_
    refine j_imul C dX5_layDown_34 ?_
    refine j_iload_n 2 C dX5_layDown_35 rfl rfl ?_
    refine j_iadd C dX5_layDown_36 ?_
    refine j_istore [(5, .int ((x1 * 4) + x2)), (0, .ref (ea E 0)), (1, .int x1), (2, .int x2), (3, .int x3), (4, .int x4)] C dX5_layDown_37 (by decide) rfl ?_
    refine j_iload_n 4 C dX5_layDown_39 rfl rfl ?_
    refine j_zeq 61 C dX5_layDown_40 (by decide) ?_ ?_
    · refine j_aload_n 1 C dX5_layDown_61 rfl rfl ?_
      refine j_get 6 C fl5_43 (by decide) (ct_0 E _) rfl dX5_layDown_62 ?_
      refine j_iload 0 C dX5_layDown_65 rfl ?_
      refine j_aload_n 1 C dX5_layDown_67 rfl rfl ?_
      refine j_get 0 C fl5_20 (by decide) (ct_0 E _) rfl dX5_layDown_68 ?_
      refine j_iload 5 C dX5_layDown_71 rfl ?_
      refine j_callVV [.int ((x1 * 4) + x2), .ref (ea E 1), .int x4] (con4_keepAdvertisement N 1 ((x1 * 4) + x2) x4 ⟨by decide, by decide⟩) C mi4_keepAdvertisement mv4_keepAdvertisement lk5_276 (by decide) (ct_76 E _) rfl rfl rfl ⟨Nat.le_of_ble_eq_true rfl, Nat.le_of_ble_eq_true rfl, Nat.le_of_ble_eq_true rfl, Nat.le_of_ble_eq_true rfl, Nat.le_of_ble_eq_true rfl⟩ dX5_layDown_73 (fun σ73 => ?_)
      exact j_sub [1, 2] rfl (wJ76 σ73)
    · refine j_aload_n 1 C dX5_layDown_43 rfl rfl ?_
      refine j_get 6 C fl5_43 (by decide) (ct_0 E _) rfl dX5_layDown_44 ?_
      refine j_iload 0 C dX5_layDown_47 rfl ?_
      refine j_aload_n 1 C dX5_layDown_49 rfl rfl ?_
      refine j_get 0 C fl5_20 (by decide) (ct_0 E _) rfl dX5_layDown_50 ?_
      refine j_iload 5 C dX5_layDown_53 rfl ?_
      refine j_callVV [.int ((x1 * 4) + x2), .ref (ea E 1), .int x4] (con4_keepStory N 1 ((x1 * 4) + x2) x4 ⟨by decide, by decide⟩) C mi4_keepStory mv4_keepStory lk5_272 (by decide) (ct_76 E _) rfl rfl rfl ⟨Nat.le_of_ble_eq_true rfl, Nat.le_of_ble_eq_true rfl, Nat.le_of_ble_eq_true rfl, Nat.le_of_ble_eq_true rfl, Nat.le_of_ble_eq_true rfl⟩ dX5_layDown_55 (fun σ55 => ?_)
      refine j_goto 76 C dX5_layDown_58 (by decide) ?_
      exact j_sub [1, 2] rfl (wJ76 σ55)
  · exact j_throw C hT ht hlocks th5_269_271 dX5_layDown_24 dX5_layDown_27 dX5_layDown_28 dX5_layDown_31 ⟨Nat.le_of_ble_eq_true rfl, Nat.le_of_ble_eq_true rfl, Nat.le_of_ble_eq_true rfl, Nat.le_of_ble_eq_true rfl⟩ (Nat.le_of_ble_eq_true rfl) (Nat.le_of_ble_eq_true rfl)
set_option maxHeartbeats 4000000 in
set_option maxRecDepth 100000 in
theorem con5_takeUp (N : Nat) (x1 : Int32) (x2 : Int32) : CoXI yX5_takeUp cX5_takeUp 5 .int rm5_takeUp (fun E => [.ref (ea E 0), .int x1, .int x2]) (f5_takeUp N x1 x2) := by
  refine coXI_of (L := fun E => [(0, .ref (ea E 0)), (1, .int x1), (2, .int x2)]) (by decide) (fun _ => Nat.le_of_ble_eq_true rfl) (fun _ => rfl) ?_
  intro l E σ p e s m args below meth c C hr hlocks hT ht
  have wJ79 : ∀ (y0 : Int32) (σ : Hp), J E 5 p l e rm5_takeUp s m args below meth c (XI E below args s rm5_takeUp.cells rm5_takeUp.slots) (f5_takeUp_J79 N x1 x2 y0 σ) 79 [(0, .ref (ea E 0))] [.int y0] σ 1 6 := by
    intro y0 σ
    unfold f5_takeUp_J79
    refine j_istore [(4, .int y0), (0, .ref (ea E 0))] C dX5_takeUp_79 (by decide) rfl ?_
    refine j_iload 0 C dX5_takeUp_81 rfl ?_
    refine j_iconst (v := (-1)) (-1) C dX5_takeUp_83 (by decide) ?_
    refine j_ine 95 C dX5_takeUp_84 (by decide) ?_ ?_
    · refine j_aload_n 1 C dX5_takeUp_95 rfl rfl ?_
      refine j_get 4 C fl5_30 (by decide) (ct_0 E _) rfl dX5_takeUp_96 ?_
      refine j_aload_n 1 C dX5_takeUp_99 rfl rfl ?_
      refine j_get 0 C fl5_20 (by decide) (ct_0 E _) rfl dX5_takeUp_100 ?_
      refine j_callVV [.ref (ea E 1)] (con2_remember N 1 ⟨by decide, by decide⟩) C mi2_remember mv2_remember lk5_62 (by decide) (ct_74 E _) rfl rfl rfl ⟨Nat.le_of_ble_eq_true rfl, Nat.le_of_ble_eq_true rfl, Nat.le_of_ble_eq_true rfl, Nat.le_of_ble_eq_true rfl, Nat.le_of_ble_eq_true rfl⟩ dX5_takeUp_103 (fun σ103 => ?_)
      refine j_aload_n 1 C dX5_takeUp_106 rfl rfl ?_
      refine j_get 0 C fl5_20 (by decide) (ct_0 E _) rfl dX5_takeUp_107 ?_
      refine j_aload_n 1 C dX5_takeUp_110 rfl rfl ?_
      refine j_get 2 C fl5_24 (by decide) (ct_0 E _) rfl dX5_takeUp_111 ?_
      refine j_callVV [.ref (ea E 6)] (con1_copyFrom N 1 6 ⟨by decide, by decide⟩ ⟨by decide, by decide⟩) C mi1_copyFrom mv1_copyFrom lk5_199 (E_lt ⟨by decide, by decide⟩) (ct_E E ⟨by decide, by decide⟩ _) rfl rfl rfl ⟨Nat.le_of_ble_eq_true rfl, Nat.le_of_ble_eq_true rfl, Nat.le_of_ble_eq_true rfl, Nat.le_of_ble_eq_true rfl, Nat.le_of_ble_eq_true rfl⟩ dX5_takeUp_114 (fun σ114 => ?_)
      refine j_aload_n 1 C dX5_takeUp_117 rfl rfl ?_
      refine j_get 1 C fl5_12 (by decide) (ct_0 E _) rfl dX5_takeUp_118 ?_
      refine j_callVV [] (con3_layOut N 56 (Or.inl rfl)) C mi3_layOut mv3_layOut lk5_69 (P_lt (Or.inl rfl)) (ct_P E (Or.inl rfl) _) rfl rfl rfl ⟨Nat.le_of_ble_eq_true rfl, Nat.le_of_ble_eq_true rfl, Nat.le_of_ble_eq_true rfl, Nat.le_of_ble_eq_true rfl, Nat.le_of_ble_eq_true rfl⟩ dX5_takeUp_121 (fun σ121 => ?_)
      refine j_iload 0 C dX5_takeUp_124 rfl ?_
      exact j_xiret C hr hlocks rfl dX5_takeUp_126 (Nat.le_of_ble_eq_true rfl) (Nat.le_of_ble_eq_true rfl)
    · exact j_throw C hT ht hlocks th5_295_297 dX5_takeUp_87 dX5_takeUp_90 dX5_takeUp_91 dX5_takeUp_94 ⟨Nat.le_of_ble_eq_true rfl, Nat.le_of_ble_eq_true rfl, Nat.le_of_ble_eq_true rfl, Nat.le_of_ble_eq_true rfl⟩ (Nat.le_of_ble_eq_true rfl) (Nat.le_of_ble_eq_true rfl)
  unfold f5_takeUp
  refine j_iload_n 1 C dX5_takeUp_0 rfl rfl ?_
  refine j_iload_n 2 C dX5_takeUp_1 rfl rfl ?_
  refine j_callXSV [.int x1, .int x2] (con5_needShelfPlace N x1 x2) C hT ht hlocks mi5_needShelfPlace ms5_needShelfPlace lk5_261 rfl rfl ⟨Nat.le_of_ble_eq_true rfl, Nat.le_of_ble_eq_true rfl, Nat.le_of_ble_eq_true rfl, Nat.le_of_ble_eq_true rfl, Nat.le_of_ble_eq_true rfl⟩ (Nat.le_of_ble_eq_true rfl) (Nat.le_of_ble_eq_true rfl) dX5_takeUp_2 (fun σ2 => ?_)
  refine j_iload_n 1 C dX5_takeUp_5 rfl rfl ?_
  refine j_iconst (v := 4) 4 C dX5_takeUp_6 (by decide) ?_
  refine j_imul C dX5_takeUp_7 ?_
  refine j_iload_n 2 C dX5_takeUp_8 rfl rfl ?_
  refine j_iadd C dX5_takeUp_9 ?_
  refine j_istore_n [(3, .int ((x1 * 4) + x2)), (0, .ref (ea E 0)), (1, .int x1), (2, .int x2)] C dX5_takeUp_10 rfl (by decide) rfl ?_
  refine j_aload_n 1 C dX5_takeUp_11 rfl rfl ?_
  refine j_get 6 C fl5_43 (by decide) (ct_0 E _) rfl dX5_takeUp_12 ?_
  refine j_iload_n 0 C dX5_takeUp_15 rfl rfl ?_
  refine j_callVI [.int ((x1 * 4) + x2)] (con4_isEmptyAt N ((x1 * 4) + x2)) C mi4_isEmptyAt mv4_isEmptyAt lk5_282 (by decide) (ct_76 E _) rfl rfl rfl ⟨Nat.le_of_ble_eq_true rfl, Nat.le_of_ble_eq_true rfl, Nat.le_of_ble_eq_true rfl, Nat.le_of_ble_eq_true rfl, Nat.le_of_ble_eq_true rfl⟩ dX5_takeUp_16 (fun r16 σ16 => ?_)
  refine j_zeq 30 C dX5_takeUp_19 (by decide) ?_ ?_
  · refine j_aload_n 1 C dX5_takeUp_30 rfl rfl ?_
    refine j_get 2 C fl5_24 (by decide) (ct_0 E _) rfl dX5_takeUp_31 ?_
    refine j_aload_n 1 C dX5_takeUp_34 rfl rfl ?_
    refine j_get 0 C fl5_20 (by decide) (ct_0 E _) rfl dX5_takeUp_35 ?_
    refine j_callVV [.ref (ea E 1)] (con1_copyFrom N 6 1 ⟨by decide, by decide⟩ ⟨by decide, by decide⟩) C mi1_copyFrom mv1_copyFrom lk5_199 (E_lt ⟨by decide, by decide⟩) (ct_E E ⟨by decide, by decide⟩ _) rfl rfl rfl ⟨Nat.le_of_ble_eq_true rfl, Nat.le_of_ble_eq_true rfl, Nat.le_of_ble_eq_true rfl, Nat.le_of_ble_eq_true rfl, Nat.le_of_ble_eq_true rfl⟩ dX5_takeUp_38 (fun σ38 => ?_)
    refine j_aload_n 1 C dX5_takeUp_41 rfl rfl ?_
    refine j_get 6 C fl5_43 (by decide) (ct_0 E _) rfl dX5_takeUp_42 ?_
    refine j_iload_n 0 C dX5_takeUp_45 rfl rfl ?_
    refine j_callVI [.int ((x1 * 4) + x2)] (con4_isStoryAt N ((x1 * 4) + x2)) C mi4_isStoryAt mv4_isStoryAt lk5_285 (by decide) (ct_76 E _) rfl rfl rfl ⟨Nat.le_of_ble_eq_true rfl, Nat.le_of_ble_eq_true rfl, Nat.le_of_ble_eq_true rfl, Nat.le_of_ble_eq_true rfl, Nat.le_of_ble_eq_true rfl⟩ dX5_takeUp_46 (fun r46 σ46 => ?_)
    refine j_zeq 67 C dX5_takeUp_49 (by decide) ?_ ?_
    · refine j_aload_n 1 C dX5_takeUp_67 rfl rfl ?_
      refine j_get 6 C fl5_43 (by decide) (ct_0 E _) rfl dX5_takeUp_68 ?_
      refine j_iload_n 0 C dX5_takeUp_71 rfl rfl ?_
      refine j_aload_n 1 C dX5_takeUp_72 rfl rfl ?_
      refine j_get 2 C fl5_24 (by decide) (ct_0 E _) rfl dX5_takeUp_73 ?_
      refine j_callVI [.int ((x1 * 4) + x2), .ref (ea E 6)] (con4_giveAdvertisement N 6 ((x1 * 4) + x2) ⟨by decide, by decide⟩) C mi4_giveAdvertisement mv4_giveAdvertisement lk5_292 (by decide) (ct_76 E _) rfl rfl rfl ⟨Nat.le_of_ble_eq_true rfl, Nat.le_of_ble_eq_true rfl, Nat.le_of_ble_eq_true rfl, Nat.le_of_ble_eq_true rfl, Nat.le_of_ble_eq_true rfl⟩ dX5_takeUp_76 (fun r76 σ76 => ?_)
      exact j_sub [1] rfl (wJ79 r76 σ76)
    · refine j_aload_n 1 C dX5_takeUp_52 rfl rfl ?_
      refine j_get 6 C fl5_43 (by decide) (ct_0 E _) rfl dX5_takeUp_53 ?_
      refine j_iload_n 0 C dX5_takeUp_56 rfl rfl ?_
      refine j_aload_n 1 C dX5_takeUp_57 rfl rfl ?_
      refine j_get 2 C fl5_24 (by decide) (ct_0 E _) rfl dX5_takeUp_58 ?_
      refine j_callVI [.int ((x1 * 4) + x2), .ref (ea E 6)] (con4_giveStory N 6 ((x1 * 4) + x2) ⟨by decide, by decide⟩) C mi4_giveStory mv4_giveStory lk5_288 (by decide) (ct_76 E _) rfl rfl rfl ⟨Nat.le_of_ble_eq_true rfl, Nat.le_of_ble_eq_true rfl, Nat.le_of_ble_eq_true rfl, Nat.le_of_ble_eq_true rfl, Nat.le_of_ble_eq_true rfl⟩ dX5_takeUp_61 (fun r61 σ61 => ?_)
      refine j_goto 79 C dX5_takeUp_64 (by decide) ?_
      exact j_sub [1] rfl (wJ79 r61 σ61)
  · exact j_throw C hT ht hlocks th5_163_165 dX5_takeUp_22 dX5_takeUp_25 dX5_takeUp_26 dX5_takeUp_29 ⟨Nat.le_of_ble_eq_true rfl, Nat.le_of_ble_eq_true rfl, Nat.le_of_ble_eq_true rfl, Nat.le_of_ble_eq_true rfl⟩ (Nat.le_of_ble_eq_true rfl) (Nat.le_of_ble_eq_true rfl)
set_option maxHeartbeats 4000000 in
set_option maxRecDepth 100000 in
theorem con5_feed (N : Nat) (x1 : Int32) : CoXI yX5_feed cX5_feed 2 .int rm5_feed (fun E => [.ref (ea E 0), .int x1]) (f5_feed N x1) := by
  refine coXI_of (L := fun E => [(0, .ref (ea E 0)), (1, .int x1)]) (by decide) (fun _ => Nat.le_of_ble_eq_true rfl) (fun _ => rfl) ?_
  intro l E σ p e s m args below meth c C hr hlocks hT ht
  unfold f5_feed
  refine j_aload_n 0 C dX5_feed_0 rfl rfl ?_
  refine j_get 7 C fl5_50 (by decide) (ct_0 E _) rfl dX5_feed_1 ?_
  refine j_callVI [] (con0_isFull N) C mi0_isFull mv0_isFull lk5_298 (by decide) (ct_79 E _) rfl rfl rfl ⟨Nat.le_of_ble_eq_true rfl, Nat.le_of_ble_eq_true rfl, Nat.le_of_ble_eq_true rfl, Nat.le_of_ble_eq_true rfl, Nat.le_of_ble_eq_true rfl⟩ dX5_feed_4 (fun r4 σ4 => ?_)
  refine j_zeq 18 C dX5_feed_7 (by decide) ?_ ?_
  · refine j_aload_n 0 C dX5_feed_18 rfl rfl ?_
    refine j_get 7 C fl5_50 (by decide) (ct_0 E _) rfl dX5_feed_19 ?_
    refine j_iload_n 1 C dX5_feed_22 rfl rfl ?_
    refine j_callVI [.int x1] (con0_append N x1) C mi0_append mv0_append lk5_302 (by decide) (ct_79 E _) rfl rfl rfl ⟨Nat.le_of_ble_eq_true rfl, Nat.le_of_ble_eq_true rfl, Nat.le_of_ble_eq_true rfl, Nat.le_of_ble_eq_true rfl, Nat.le_of_ble_eq_true rfl⟩ dX5_feed_23 (fun r23 σ23 => ?_)
    exact j_xiret C hr hlocks rfl dX5_feed_26 (Nat.le_of_ble_eq_true rfl) (Nat.le_of_ble_eq_true rfl)
  · exact j_throw C hT ht hlocks th5_295_297 dX5_feed_10 dX5_feed_13 dX5_feed_14 dX5_feed_17 ⟨Nat.le_of_ble_eq_true rfl, Nat.le_of_ble_eq_true rfl, Nat.le_of_ble_eq_true rfl, Nat.le_of_ble_eq_true rfl⟩ (Nat.le_of_ble_eq_true rfl) (Nat.le_of_ble_eq_true rfl)
set_option maxHeartbeats 4000000 in
set_option maxRecDepth 100000 in
theorem con5_carryOutStory (N : Nat) (x1 : Int32) : ConI yX5_carryOutStory cX5_carryOutStory 8 .int rm5_carryOutStory (fun E => [.ref (ea E 0), .int x1]) (f5_carryOutStory N x1) := by
  refine conI_of (L := fun E => [(0, .ref (ea E 0)), (1, .int x1)]) (by decide) (fun _ => Nat.le_of_ble_eq_true rfl) (fun _ => rfl) ?_
  intro l E σ p e s m args below meth c C hr hlocks
  unfold f5_carryOutStory
  refine j_aload_n 0 C dX5_carryOutStory_0 rfl rfl ?_
  refine j_get 7 C fl5_50 (by decide) (ct_0 E _) rfl dX5_carryOutStory_1 ?_
  refine j_iload_n 1 C dX5_carryOutStory_4 rfl rfl ?_
  refine j_iconst (v := 0) 0 C dX5_carryOutStory_5 (by decide) ?_
  refine j_callVI [.int x1, .int 0] (con0_numberOf N x1 0) C mi0_numberOf mv0_numberOf lk5_342 (by decide) (ct_79 E _) rfl rfl rfl ⟨Nat.le_of_ble_eq_true rfl, Nat.le_of_ble_eq_true rfl, Nat.le_of_ble_eq_true rfl, Nat.le_of_ble_eq_true rfl, Nat.le_of_ble_eq_true rfl⟩ dX5_carryOutStory_6 (fun r6 σ6 => ?_)
  refine j_istore_n [(2, .int r6), (0, .ref (ea E 0)), (1, .int x1)] C dX5_carryOutStory_9 rfl (by decide) rfl ?_
  refine j_aload_n 1 C dX5_carryOutStory_10 rfl rfl ?_
  refine j_get 7 C fl5_50 (by decide) (ct_0 E _) rfl dX5_carryOutStory_11 ?_
  refine j_iload_n 2 C dX5_carryOutStory_14 rfl rfl ?_
  refine j_iconst (v := 1) 1 C dX5_carryOutStory_15 (by decide) ?_
  refine j_callVI [.int x1, .int 1] (con0_numberOf N x1 1) C mi0_numberOf mv0_numberOf lk5_342 (by decide) (ct_79 E _) rfl rfl rfl ⟨Nat.le_of_ble_eq_true rfl, Nat.le_of_ble_eq_true rfl, Nat.le_of_ble_eq_true rfl, Nat.le_of_ble_eq_true rfl, Nat.le_of_ble_eq_true rfl⟩ dX5_carryOutStory_16 (fun r16 σ16 => ?_)
  refine j_istore_n [(3, .int r16), (2, .int r6), (0, .ref (ea E 0)), (1, .int x1)] C dX5_carryOutStory_19 rfl (by decide) rfl ?_
  refine j_aload_n 2 C dX5_carryOutStory_20 rfl rfl ?_
  refine j_get 7 C fl5_50 (by decide) (ct_0 E _) rfl dX5_carryOutStory_21 ?_
  refine j_iload_n 3 C dX5_carryOutStory_24 rfl rfl ?_
  refine j_iconst (v := 2) 2 C dX5_carryOutStory_25 (by decide) ?_
  refine j_callVI [.int x1, .int 2] (con0_numberOf N x1 2) C mi0_numberOf mv0_numberOf lk5_342 (by decide) (ct_79 E _) rfl rfl rfl ⟨Nat.le_of_ble_eq_true rfl, Nat.le_of_ble_eq_true rfl, Nat.le_of_ble_eq_true rfl, Nat.le_of_ble_eq_true rfl, Nat.le_of_ble_eq_true rfl⟩ dX5_carryOutStory_26 (fun r26 σ26 => ?_)
  refine j_istore [(4, .int r26), (3, .int r16), (2, .int r6), (0, .ref (ea E 0)), (1, .int x1)] C dX5_carryOutStory_29 (by decide) rfl ?_
  refine j_aload_n 3 C dX5_carryOutStory_31 rfl rfl ?_
  refine j_get 7 C fl5_50 (by decide) (ct_0 E _) rfl dX5_carryOutStory_32 ?_
  refine j_iload_n 4 C dX5_carryOutStory_35 rfl rfl ?_
  refine j_iconst (v := 3) 3 C dX5_carryOutStory_36 (by decide) ?_
  refine j_callVI [.int x1, .int 3] (con0_numberOf N x1 3) C mi0_numberOf mv0_numberOf lk5_342 (by decide) (ct_79 E _) rfl rfl rfl ⟨Nat.le_of_ble_eq_true rfl, Nat.le_of_ble_eq_true rfl, Nat.le_of_ble_eq_true rfl, Nat.le_of_ble_eq_true rfl, Nat.le_of_ble_eq_true rfl⟩ dX5_carryOutStory_37 (fun r37 σ37 => ?_)
  refine j_istore [(5, .int r37), (4, .int r26), (3, .int r16), (2, .int r6), (0, .ref (ea E 0)), (1, .int x1)] C dX5_carryOutStory_40 (by decide) rfl ?_
  refine j_aload_n 4 C dX5_carryOutStory_42 rfl rfl ?_
  refine j_get 7 C fl5_50 (by decide) (ct_0 E _) rfl dX5_carryOutStory_43 ?_
  refine j_iload_n 5 C dX5_carryOutStory_46 rfl rfl ?_
  refine j_iconst (v := 4) 4 C dX5_carryOutStory_47 (by decide) ?_
  refine j_callVI [.int x1, .int 4] (con0_numberOf N x1 4) C mi0_numberOf mv0_numberOf lk5_342 (by decide) (ct_79 E _) rfl rfl rfl ⟨Nat.le_of_ble_eq_true rfl, Nat.le_of_ble_eq_true rfl, Nat.le_of_ble_eq_true rfl, Nat.le_of_ble_eq_true rfl, Nat.le_of_ble_eq_true rfl⟩ dX5_carryOutStory_48 (fun r48 σ48 => ?_)
  refine j_istore [(6, .int r48), (5, .int r37), (4, .int r26), (3, .int r16), (2, .int r6), (0, .ref (ea E 0)), (1, .int x1)] C dX5_carryOutStory_51 (by decide) rfl ?_
  refine j_aload_n 5 C dX5_carryOutStory_53 rfl rfl ?_
  refine j_get 2 C fl5_24 (by decide) (ct_0 E _) rfl dX5_carryOutStory_54 ?_
  refine j_iload_n 4 C dX5_carryOutStory_57 rfl rfl ?_
  refine j_iload_n 3 C dX5_carryOutStory_58 rfl rfl ?_
  refine j_iload 2 C dX5_carryOutStory_59 rfl ?_
  refine j_iload 1 C dX5_carryOutStory_61 rfl ?_
  refine j_iload 0 C dX5_carryOutStory_63 rfl ?_
  refine j_callVI [.int r6, .int r16, .int r26, .int r37, .int r48] (con1_faultOfStory N 6 r6 r16 r26 r37 r48 ⟨by decide, by decide⟩) C mi1_faultOfStory mv1_faultOfStory lk5_72 (E_lt ⟨by decide, by decide⟩) (ct_E E ⟨by decide, by decide⟩ _) rfl rfl rfl ⟨Nat.le_of_ble_eq_true rfl, Nat.le_of_ble_eq_true rfl, Nat.le_of_ble_eq_true rfl, Nat.le_of_ble_eq_true rfl, Nat.le_of_ble_eq_true rfl⟩ dX5_carryOutStory_65 (fun r65 σ65 => ?_)
  refine j_istore [(7, .int r65), (6, .int r48), (5, .int r37), (4, .int r26), (3, .int r16), (2, .int r6), (0, .ref (ea E 0)), (1, .int x1)] C dX5_carryOutStory_68 (by decide) rfl ?_
  refine j_iload 0 C dX5_carryOutStory_70 rfl ?_
  refine j_zne 91 C dX5_carryOutStory_72 (by decide) ?_ ?_
  · refine j_iload 0 C dX5_carryOutStory_91 rfl ?_
    exact j_iret C hr hlocks rfl dX5_carryOutStory_93 (Nat.le_of_ble_eq_true rfl) (Nat.le_of_ble_eq_true rfl)
  · refine j_aload_n 6 C dX5_carryOutStory_75 rfl rfl ?_
    refine j_get 2 C fl5_24 (by decide) (ct_0 E _) rfl dX5_carryOutStory_76 ?_
    refine j_iload_n 5 C dX5_carryOutStory_79 rfl rfl ?_
    refine j_iload_n 4 C dX5_carryOutStory_80 rfl rfl ?_
    refine j_iload 3 C dX5_carryOutStory_81 rfl ?_
    refine j_iload 2 C dX5_carryOutStory_83 rfl ?_
    refine j_iload 1 C dX5_carryOutStory_85 rfl ?_
    refine j_callVI [.int r6, .int r16, .int r26, .int r37, .int r48] (con1_putStory N 6 r6 r16 r26 r37 r48 ⟨by decide, by decide⟩) C mi1_putStory mv1_putStory lk5_76 (E_lt ⟨by decide, by decide⟩) (ct_E E ⟨by decide, by decide⟩ _) rfl rfl rfl ⟨Nat.le_of_ble_eq_true rfl, Nat.le_of_ble_eq_true rfl, Nat.le_of_ble_eq_true rfl, Nat.le_of_ble_eq_true rfl, Nat.le_of_ble_eq_true rfl⟩ dX5_carryOutStory_87 (fun r87 σ87 => ?_)
    refine j_pop C dX5_carryOutStory_90 rfl ?_
    refine j_iload 0 C dX5_carryOutStory_91 rfl ?_
    exact j_iret C hr hlocks rfl dX5_carryOutStory_93 (Nat.le_of_ble_eq_true rfl) (Nat.le_of_ble_eq_true rfl)
set_option maxHeartbeats 4000000 in
set_option maxRecDepth 100000 in
theorem con5_carryOutAdvertisement (N : Nat) (x1 : Int32) : ConI yX5_carryOutAdvertisement cX5_carryOutAdvertisement 9 .int rm5_carryOutAdvertisement (fun E => [.ref (ea E 0), .int x1]) (f5_carryOutAdvertisement N x1) := by
  refine conI_of (L := fun E => [(0, .ref (ea E 0)), (1, .int x1)]) (by decide) (fun _ => Nat.le_of_ble_eq_true rfl) (fun _ => rfl) ?_
  intro l E σ p e s m args below meth c C hr hlocks
  unfold f5_carryOutAdvertisement
  refine j_aload_n 0 C dX5_carryOutAdvertisement_0 rfl rfl ?_
  refine j_get 7 C fl5_50 (by decide) (ct_0 E _) rfl dX5_carryOutAdvertisement_1 ?_
  refine j_iload_n 1 C dX5_carryOutAdvertisement_4 rfl rfl ?_
  refine j_iconst (v := 0) 0 C dX5_carryOutAdvertisement_5 (by decide) ?_
  refine j_callVI [.int x1, .int 0] (con0_numberOf N x1 0) C mi0_numberOf mv0_numberOf lk5_342 (by decide) (ct_79 E _) rfl rfl rfl ⟨Nat.le_of_ble_eq_true rfl, Nat.le_of_ble_eq_true rfl, Nat.le_of_ble_eq_true rfl, Nat.le_of_ble_eq_true rfl, Nat.le_of_ble_eq_true rfl⟩ dX5_carryOutAdvertisement_6 (fun r6 σ6 => ?_)
  refine j_istore_n [(2, .int r6), (0, .ref (ea E 0)), (1, .int x1)] C dX5_carryOutAdvertisement_9 rfl (by decide) rfl ?_
  refine j_aload_n 1 C dX5_carryOutAdvertisement_10 rfl rfl ?_
  refine j_get 7 C fl5_50 (by decide) (ct_0 E _) rfl dX5_carryOutAdvertisement_11 ?_
  refine j_iload_n 2 C dX5_carryOutAdvertisement_14 rfl rfl ?_
  refine j_iconst (v := 1) 1 C dX5_carryOutAdvertisement_15 (by decide) ?_
  refine j_callVI [.int x1, .int 1] (con0_numberOf N x1 1) C mi0_numberOf mv0_numberOf lk5_342 (by decide) (ct_79 E _) rfl rfl rfl ⟨Nat.le_of_ble_eq_true rfl, Nat.le_of_ble_eq_true rfl, Nat.le_of_ble_eq_true rfl, Nat.le_of_ble_eq_true rfl, Nat.le_of_ble_eq_true rfl⟩ dX5_carryOutAdvertisement_16 (fun r16 σ16 => ?_)
  refine j_istore_n [(3, .int r16), (2, .int r6), (0, .ref (ea E 0)), (1, .int x1)] C dX5_carryOutAdvertisement_19 rfl (by decide) rfl ?_
  refine j_aload_n 2 C dX5_carryOutAdvertisement_20 rfl rfl ?_
  refine j_get 7 C fl5_50 (by decide) (ct_0 E _) rfl dX5_carryOutAdvertisement_21 ?_
  refine j_iload_n 3 C dX5_carryOutAdvertisement_24 rfl rfl ?_
  refine j_iconst (v := 2) 2 C dX5_carryOutAdvertisement_25 (by decide) ?_
  refine j_callVI [.int x1, .int 2] (con0_numberOf N x1 2) C mi0_numberOf mv0_numberOf lk5_342 (by decide) (ct_79 E _) rfl rfl rfl ⟨Nat.le_of_ble_eq_true rfl, Nat.le_of_ble_eq_true rfl, Nat.le_of_ble_eq_true rfl, Nat.le_of_ble_eq_true rfl, Nat.le_of_ble_eq_true rfl⟩ dX5_carryOutAdvertisement_26 (fun r26 σ26 => ?_)
  refine j_istore [(4, .int r26), (3, .int r16), (2, .int r6), (0, .ref (ea E 0)), (1, .int x1)] C dX5_carryOutAdvertisement_29 (by decide) rfl ?_
  refine j_aload_n 3 C dX5_carryOutAdvertisement_31 rfl rfl ?_
  refine j_get 7 C fl5_50 (by decide) (ct_0 E _) rfl dX5_carryOutAdvertisement_32 ?_
  refine j_iload_n 4 C dX5_carryOutAdvertisement_35 rfl rfl ?_
  refine j_iconst (v := 3) 3 C dX5_carryOutAdvertisement_36 (by decide) ?_
  refine j_callVI [.int x1, .int 3] (con0_numberOf N x1 3) C mi0_numberOf mv0_numberOf lk5_342 (by decide) (ct_79 E _) rfl rfl rfl ⟨Nat.le_of_ble_eq_true rfl, Nat.le_of_ble_eq_true rfl, Nat.le_of_ble_eq_true rfl, Nat.le_of_ble_eq_true rfl, Nat.le_of_ble_eq_true rfl⟩ dX5_carryOutAdvertisement_37 (fun r37 σ37 => ?_)
  refine j_istore [(5, .int r37), (4, .int r26), (3, .int r16), (2, .int r6), (0, .ref (ea E 0)), (1, .int x1)] C dX5_carryOutAdvertisement_40 (by decide) rfl ?_
  refine j_aload_n 4 C dX5_carryOutAdvertisement_42 rfl rfl ?_
  refine j_get 7 C fl5_50 (by decide) (ct_0 E _) rfl dX5_carryOutAdvertisement_43 ?_
  refine j_iload_n 5 C dX5_carryOutAdvertisement_46 rfl rfl ?_
  refine j_iconst (v := 4) 4 C dX5_carryOutAdvertisement_47 (by decide) ?_
  refine j_callVI [.int x1, .int 4] (con0_numberOf N x1 4) C mi0_numberOf mv0_numberOf lk5_342 (by decide) (ct_79 E _) rfl rfl rfl ⟨Nat.le_of_ble_eq_true rfl, Nat.le_of_ble_eq_true rfl, Nat.le_of_ble_eq_true rfl, Nat.le_of_ble_eq_true rfl, Nat.le_of_ble_eq_true rfl⟩ dX5_carryOutAdvertisement_48 (fun r48 σ48 => ?_)
  refine j_istore [(6, .int r48), (5, .int r37), (4, .int r26), (3, .int r16), (2, .int r6), (0, .ref (ea E 0)), (1, .int x1)] C dX5_carryOutAdvertisement_51 (by decide) rfl ?_
  refine j_aload_n 5 C dX5_carryOutAdvertisement_53 rfl rfl ?_
  refine j_get 7 C fl5_50 (by decide) (ct_0 E _) rfl dX5_carryOutAdvertisement_54 ?_
  refine j_iload_n 6 C dX5_carryOutAdvertisement_57 rfl rfl ?_
  refine j_iconst (v := 5) 5 C dX5_carryOutAdvertisement_58 (by decide) ?_
  refine j_callVI [.int x1, .int 5] (con0_numberOf N x1 5) C mi0_numberOf mv0_numberOf lk5_342 (by decide) (ct_79 E _) rfl rfl rfl ⟨Nat.le_of_ble_eq_true rfl, Nat.le_of_ble_eq_true rfl, Nat.le_of_ble_eq_true rfl, Nat.le_of_ble_eq_true rfl, Nat.le_of_ble_eq_true rfl⟩ dX5_carryOutAdvertisement_59 (fun r59 σ59 => ?_)
  refine j_istore [(7, .int r59), (6, .int r48), (5, .int r37), (4, .int r26), (3, .int r16), (2, .int r6), (0, .ref (ea E 0)), (1, .int x1)] C dX5_carryOutAdvertisement_62 (by decide) rfl ?_
  refine j_aload_n 6 C dX5_carryOutAdvertisement_64 rfl rfl ?_
  refine j_get 2 C fl5_24 (by decide) (ct_0 E _) rfl dX5_carryOutAdvertisement_65 ?_
  refine j_iload_n 5 C dX5_carryOutAdvertisement_68 rfl rfl ?_
  refine j_iload_n 4 C dX5_carryOutAdvertisement_69 rfl rfl ?_
  refine j_iload 3 C dX5_carryOutAdvertisement_70 rfl ?_
  refine j_iload 2 C dX5_carryOutAdvertisement_72 rfl ?_
  refine j_iload 1 C dX5_carryOutAdvertisement_74 rfl ?_
  refine j_iload 0 C dX5_carryOutAdvertisement_76 rfl ?_
  refine j_callVI [.int r6, .int r16, .int r26, .int r37, .int r48, .int r59] (con1_faultOfAdvertisement N 6 r6 r16 r26 r37 r48 r59 ⟨by decide, by decide⟩) C mi1_faultOfAdvertisement mv1_faultOfAdvertisement lk5_54 (E_lt ⟨by decide, by decide⟩) (ct_E E ⟨by decide, by decide⟩ _) rfl rfl rfl ⟨Nat.le_of_ble_eq_true rfl, Nat.le_of_ble_eq_true rfl, Nat.le_of_ble_eq_true rfl, Nat.le_of_ble_eq_true rfl, Nat.le_of_ble_eq_true rfl⟩ dX5_carryOutAdvertisement_78 (fun r78 σ78 => ?_)
  refine j_istore [(8, .int r78), (7, .int r59), (6, .int r48), (5, .int r37), (4, .int r26), (3, .int r16), (2, .int r6), (0, .ref (ea E 0)), (1, .int x1)] C dX5_carryOutAdvertisement_81 (by decide) rfl ?_
  refine j_iload 0 C dX5_carryOutAdvertisement_83 rfl ?_
  refine j_zne 106 C dX5_carryOutAdvertisement_85 (by decide) ?_ ?_
  · refine j_iload 0 C dX5_carryOutAdvertisement_106 rfl ?_
    exact j_iret C hr hlocks rfl dX5_carryOutAdvertisement_108 (Nat.le_of_ble_eq_true rfl) (Nat.le_of_ble_eq_true rfl)
  · refine j_aload_n 7 C dX5_carryOutAdvertisement_88 rfl rfl ?_
    refine j_get 2 C fl5_24 (by decide) (ct_0 E _) rfl dX5_carryOutAdvertisement_89 ?_
    refine j_iload_n 6 C dX5_carryOutAdvertisement_92 rfl rfl ?_
    refine j_iload_n 5 C dX5_carryOutAdvertisement_93 rfl rfl ?_
    refine j_iload 4 C dX5_carryOutAdvertisement_94 rfl ?_
    refine j_iload 3 C dX5_carryOutAdvertisement_96 rfl ?_
    refine j_iload 2 C dX5_carryOutAdvertisement_98 rfl ?_
    refine j_iload 1 C dX5_carryOutAdvertisement_100 rfl ?_
    refine j_callVI [.int r6, .int r16, .int r26, .int r37, .int r48, .int r59] (con1_putAdvertisement N 6 r6 r16 r26 r37 r48 r59 ⟨by decide, by decide⟩) C mi1_putAdvertisement mv1_putAdvertisement lk5_66 (E_lt ⟨by decide, by decide⟩) (ct_E E ⟨by decide, by decide⟩ _) rfl rfl rfl ⟨Nat.le_of_ble_eq_true rfl, Nat.le_of_ble_eq_true rfl, Nat.le_of_ble_eq_true rfl, Nat.le_of_ble_eq_true rfl, Nat.le_of_ble_eq_true rfl⟩ dX5_carryOutAdvertisement_102 (fun r102 σ102 => ?_)
    refine j_pop C dX5_carryOutAdvertisement_105 rfl ?_
    refine j_iload 0 C dX5_carryOutAdvertisement_106 rfl ?_
    exact j_iret C hr hlocks rfl dX5_carryOutAdvertisement_108 (Nat.le_of_ble_eq_true rfl) (Nat.le_of_ble_eq_true rfl)
set_option maxHeartbeats 4000000 in
set_option maxRecDepth 100000 in
theorem con5_carryOutPhoto (N : Nat) (x1 : Int32) : ConI yX5_carryOutPhoto cX5_carryOutPhoto 6 .int rm5_carryOutPhoto (fun E => [.ref (ea E 0), .int x1]) (f5_carryOutPhoto N x1) := by
  refine conI_of (L := fun E => [(0, .ref (ea E 0)), (1, .int x1)]) (by decide) (fun _ => Nat.le_of_ble_eq_true rfl) (fun _ => rfl) ?_
  intro l E σ p e s m args below meth c C hr hlocks
  unfold f5_carryOutPhoto
  refine j_aload_n 0 C dX5_carryOutPhoto_0 rfl rfl ?_
  refine j_get 7 C fl5_50 (by decide) (ct_0 E _) rfl dX5_carryOutPhoto_1 ?_
  refine j_iload_n 1 C dX5_carryOutPhoto_4 rfl rfl ?_
  refine j_iconst (v := 0) 0 C dX5_carryOutPhoto_5 (by decide) ?_
  refine j_callVI [.int x1, .int 0] (con0_numberOf N x1 0) C mi0_numberOf mv0_numberOf lk5_342 (by decide) (ct_79 E _) rfl rfl rfl ⟨Nat.le_of_ble_eq_true rfl, Nat.le_of_ble_eq_true rfl, Nat.le_of_ble_eq_true rfl, Nat.le_of_ble_eq_true rfl, Nat.le_of_ble_eq_true rfl⟩ dX5_carryOutPhoto_6 (fun r6 σ6 => ?_)
  refine j_istore_n [(2, .int r6), (0, .ref (ea E 0)), (1, .int x1)] C dX5_carryOutPhoto_9 rfl (by decide) rfl ?_
  refine j_aload_n 1 C dX5_carryOutPhoto_10 rfl rfl ?_
  refine j_get 7 C fl5_50 (by decide) (ct_0 E _) rfl dX5_carryOutPhoto_11 ?_
  refine j_iload_n 2 C dX5_carryOutPhoto_14 rfl rfl ?_
  refine j_iconst (v := 1) 1 C dX5_carryOutPhoto_15 (by decide) ?_
  refine j_callVI [.int x1, .int 1] (con0_numberOf N x1 1) C mi0_numberOf mv0_numberOf lk5_342 (by decide) (ct_79 E _) rfl rfl rfl ⟨Nat.le_of_ble_eq_true rfl, Nat.le_of_ble_eq_true rfl, Nat.le_of_ble_eq_true rfl, Nat.le_of_ble_eq_true rfl, Nat.le_of_ble_eq_true rfl⟩ dX5_carryOutPhoto_16 (fun r16 σ16 => ?_)
  refine j_istore_n [(3, .int r16), (2, .int r6), (0, .ref (ea E 0)), (1, .int x1)] C dX5_carryOutPhoto_19 rfl (by decide) rfl ?_
  refine j_aload_n 2 C dX5_carryOutPhoto_20 rfl rfl ?_
  refine j_get 7 C fl5_50 (by decide) (ct_0 E _) rfl dX5_carryOutPhoto_21 ?_
  refine j_iload_n 3 C dX5_carryOutPhoto_24 rfl rfl ?_
  refine j_iconst (v := 2) 2 C dX5_carryOutPhoto_25 (by decide) ?_
  refine j_callVI [.int x1, .int 2] (con0_numberOf N x1 2) C mi0_numberOf mv0_numberOf lk5_342 (by decide) (ct_79 E _) rfl rfl rfl ⟨Nat.le_of_ble_eq_true rfl, Nat.le_of_ble_eq_true rfl, Nat.le_of_ble_eq_true rfl, Nat.le_of_ble_eq_true rfl, Nat.le_of_ble_eq_true rfl⟩ dX5_carryOutPhoto_26 (fun r26 σ26 => ?_)
  refine j_istore [(4, .int r26), (3, .int r16), (2, .int r6), (0, .ref (ea E 0)), (1, .int x1)] C dX5_carryOutPhoto_29 (by decide) rfl ?_
  refine j_aload_n 3 C dX5_carryOutPhoto_31 rfl rfl ?_
  refine j_get 2 C fl5_24 (by decide) (ct_0 E _) rfl dX5_carryOutPhoto_32 ?_
  refine j_iload_n 2 C dX5_carryOutPhoto_35 rfl rfl ?_
  refine j_iload_n 1 C dX5_carryOutPhoto_36 rfl rfl ?_
  refine j_iload 0 C dX5_carryOutPhoto_37 rfl ?_
  refine j_callVI [.int r6, .int r16, .int r26] (con1_faultOfPhoto N 6 r6 r16 r26 ⟨by decide, by decide⟩) C mi1_faultOfPhoto mv1_faultOfPhoto lk5_79 (E_lt ⟨by decide, by decide⟩) (ct_E E ⟨by decide, by decide⟩ _) rfl rfl rfl ⟨Nat.le_of_ble_eq_true rfl, Nat.le_of_ble_eq_true rfl, Nat.le_of_ble_eq_true rfl, Nat.le_of_ble_eq_true rfl, Nat.le_of_ble_eq_true rfl⟩ dX5_carryOutPhoto_39 (fun r39 σ39 => ?_)
  refine j_istore [(5, .int r39), (4, .int r26), (3, .int r16), (2, .int r6), (0, .ref (ea E 0)), (1, .int x1)] C dX5_carryOutPhoto_42 (by decide) rfl ?_
  refine j_iload 0 C dX5_carryOutPhoto_44 rfl ?_
  refine j_zne 60 C dX5_carryOutPhoto_46 (by decide) ?_ ?_
  · refine j_iload 0 C dX5_carryOutPhoto_60 rfl ?_
    exact j_iret C hr hlocks rfl dX5_carryOutPhoto_62 (Nat.le_of_ble_eq_true rfl) (Nat.le_of_ble_eq_true rfl)
  · refine j_aload_n 4 C dX5_carryOutPhoto_49 rfl rfl ?_
    refine j_get 2 C fl5_24 (by decide) (ct_0 E _) rfl dX5_carryOutPhoto_50 ?_
    refine j_iload_n 3 C dX5_carryOutPhoto_53 rfl rfl ?_
    refine j_iload_n 2 C dX5_carryOutPhoto_54 rfl rfl ?_
    refine j_iload 1 C dX5_carryOutPhoto_55 rfl ?_
    refine j_callVV [.int r6, .int r16, .int r26] (con1_putPhoto N 6 r6 r16 r26 ⟨by decide, by decide⟩) C mi1_putPhoto mv1_putPhoto lk5_87 (E_lt ⟨by decide, by decide⟩) (ct_E E ⟨by decide, by decide⟩ _) rfl rfl rfl ⟨Nat.le_of_ble_eq_true rfl, Nat.le_of_ble_eq_true rfl, Nat.le_of_ble_eq_true rfl, Nat.le_of_ble_eq_true rfl, Nat.le_of_ble_eq_true rfl⟩ dX5_carryOutPhoto_57 (fun σ57 => ?_)
    refine j_iload 0 C dX5_carryOutPhoto_60 rfl ?_
    exact j_iret C hr hlocks rfl dX5_carryOutPhoto_62 (Nat.le_of_ble_eq_true rfl) (Nat.le_of_ble_eq_true rfl)
set_option maxHeartbeats 4000000 in
set_option maxRecDepth 100000 in
theorem con5_carryOutLate (N : Nat) (x1 : Int32) : ConI yX5_carryOutLate cX5_carryOutLate 3 .int rm5_carryOutLate (fun E => [.ref (ea E 0), .int x1]) (f5_carryOutLate N x1) := by
  refine conI_of (L := fun E => [(0, .ref (ea E 0)), (1, .int x1)]) (by decide) (fun _ => Nat.le_of_ble_eq_true rfl) (fun _ => rfl) ?_
  intro l E σ p e s m args below meth c C hr hlocks
  have wJ45 : ∀ (y0 : Int32) (y1 : Int32) (σ : Hp), J E 3 p l e rm5_carryOutLate s m args below meth c (QI E below args s rm5_carryOutLate.cells rm5_carryOutLate.slots) (f5_carryOutLate_J45 N x1 y0 y1 σ) 45 [] [.int y0, .int y1, .ref (ea E 6)] σ 0 0 := by
    intro y0 y1 σ
    unfold f5_carryOutLate_J45
    refine j_callVV [.int y1, .int y0] (con1_putLate N 6 y1 y0 ⟨by decide, by decide⟩) C mi1_putLate mv1_putLate lk5_98 (E_lt ⟨by decide, by decide⟩) (ct_E E ⟨by decide, by decide⟩ _) rfl rfl rfl ⟨Nat.le_of_ble_eq_true rfl, Nat.le_of_ble_eq_true rfl, Nat.le_of_ble_eq_true rfl, Nat.le_of_ble_eq_true rfl, Nat.le_of_ble_eq_true rfl⟩ dX5_carryOutLate_45 (fun σ45 => ?_)
    refine j_iconst (v := 0) 0 C dX5_carryOutLate_48 (by decide) ?_
    exact j_iret C hr hlocks rfl dX5_carryOutLate_49 (Nat.le_of_ble_eq_true rfl) (Nat.le_of_ble_eq_true rfl)
  unfold f5_carryOutLate
  refine j_aload_n 0 C dX5_carryOutLate_0 rfl rfl ?_
  refine j_get 7 C fl5_50 (by decide) (ct_0 E _) rfl dX5_carryOutLate_1 ?_
  refine j_iload_n 1 C dX5_carryOutLate_4 rfl rfl ?_
  refine j_iconst (v := 0) 0 C dX5_carryOutLate_5 (by decide) ?_
  refine j_callVI [.int x1, .int 0] (con0_numberOf N x1 0) C mi0_numberOf mv0_numberOf lk5_342 (by decide) (ct_79 E _) rfl rfl rfl ⟨Nat.le_of_ble_eq_true rfl, Nat.le_of_ble_eq_true rfl, Nat.le_of_ble_eq_true rfl, Nat.le_of_ble_eq_true rfl, Nat.le_of_ble_eq_true rfl⟩ dX5_carryOutLate_6 (fun r6 σ6 => ?_)
  refine j_istore_n [(2, .int r6), (0, .ref (ea E 0)), (1, .int x1)] C dX5_carryOutLate_9 rfl (by decide) rfl ?_
  refine j_aload_n 1 C dX5_carryOutLate_10 rfl rfl ?_
  refine j_get 2 C fl5_24 (by decide) (ct_0 E _) rfl dX5_carryOutLate_11 ?_
  refine j_iload_n 0 C dX5_carryOutLate_14 rfl rfl ?_
  refine j_callVI [.int r6] (con1_hasStory N 6 r6 ⟨by decide, by decide⟩) C mi1_hasStory mv1_hasStory lk5_255 (E_lt ⟨by decide, by decide⟩) (ct_E E ⟨by decide, by decide⟩ _) rfl rfl rfl ⟨Nat.le_of_ble_eq_true rfl, Nat.le_of_ble_eq_true rfl, Nat.le_of_ble_eq_true rfl, Nat.le_of_ble_eq_true rfl, Nat.le_of_ble_eq_true rfl⟩ dX5_carryOutLate_15 (fun r15 σ15 => ?_)
  refine j_zne 23 C dX5_carryOutLate_18 (by decide) ?_ ?_
  · refine j_aload_n 1 C dX5_carryOutLate_23 rfl rfl ?_
    refine j_get 2 C fl5_24 (by decide) (ct_0 E _) rfl dX5_carryOutLate_24 ?_
    refine j_iload_n 0 C dX5_carryOutLate_27 rfl rfl ?_
    refine j_aload_n 1 C dX5_carryOutLate_28 rfl rfl ?_
    refine j_get 7 C fl5_50 (by decide) (ct_0 E _) rfl dX5_carryOutLate_29 ?_
    refine j_iload_n 2 C dX5_carryOutLate_32 rfl rfl ?_
    refine j_iconst (v := 1) 1 C dX5_carryOutLate_33 (by decide) ?_
    refine j_callVI [.int x1, .int 1] (con0_numberOf N x1 1) C mi0_numberOf mv0_numberOf lk5_342 (by decide) (ct_79 E _) rfl rfl rfl ⟨Nat.le_of_ble_eq_true rfl, Nat.le_of_ble_eq_true rfl, Nat.le_of_ble_eq_true rfl, Nat.le_of_ble_eq_true rfl, Nat.le_of_ble_eq_true rfl⟩ dX5_carryOutLate_34 (fun r34 σ34 => ?_)
    refine j_zeq 44 C dX5_carryOutLate_37 (by decide) ?_ ?_
    · refine j_iconst (v := 0) 0 C dX5_carryOutLate_44 (by decide) ?_
      exact j_sub [] rfl (wJ45 0 r6 σ34)
    · refine j_iconst (v := 1) 1 C dX5_carryOutLate_40 (by decide) ?_
      refine j_goto 45 C dX5_carryOutLate_41 (by decide) ?_
      exact j_sub [] rfl (wJ45 1 r6 σ34)
  · refine j_iconst (v := 1) 1 C dX5_carryOutLate_21 (by decide) ?_
    exact j_iret C hr hlocks rfl dX5_carryOutLate_22 (Nat.le_of_ble_eq_true rfl) (Nat.le_of_ble_eq_true rfl)
set_option maxHeartbeats 4000000 in
set_option maxRecDepth 100000 in
theorem con5_carryOut (N : Nat) (x1 : Int32) : ConI yX5_carryOut cX5_carryOut 2 .int rm5_carryOut (fun E => [.ref (ea E 0), .int x1]) (f5_carryOut N x1) := by
  refine conI_of (L := fun E => [(0, .ref (ea E 0)), (1, .int x1)]) (by decide) (fun _ => Nat.le_of_ble_eq_true rfl) (fun _ => rfl) ?_
  intro l E σ p e s m args below meth c C hr hlocks
  unfold f5_carryOut
  refine j_aload_n 0 C dX5_carryOut_0 rfl rfl ?_
  refine j_get 7 C fl5_50 (by decide) (ct_0 E _) rfl dX5_carryOut_1 ?_
  refine j_iload_n 1 C dX5_carryOut_4 rfl rfl ?_
  refine j_callVI [.int x1] (con0_letterOf N x1) C mi0_letterOf mv0_letterOf lk5_326 (by decide) (ct_79 E _) rfl rfl rfl ⟨Nat.le_of_ble_eq_true rfl, Nat.le_of_ble_eq_true rfl, Nat.le_of_ble_eq_true rfl, Nat.le_of_ble_eq_true rfl, Nat.le_of_ble_eq_true rfl⟩ dX5_carryOut_5 (fun r5 σ5 => ?_)
  refine j_ite (fun q8_0 => ?_) (fun q8_0 => ?_)
  · refine j_lin 50 C dX5_carryOut_8 q8_0 (by decide) rfl (by decide) ?_
    refine j_aload_n 0 C dX5_carryOut_50 rfl rfl ?_
    refine j_iload_n 1 C dX5_carryOut_51 rfl rfl ?_
    refine j_callVI [.int x1] (con5_carryOutAdvertisement N x1) C mi5_carryOutAdvertisement mv5_carryOutAdvertisement lk5_333 (by decide) (ct_0 E _) rfl rfl rfl ⟨Nat.le_of_ble_eq_true rfl, Nat.le_of_ble_eq_true rfl, Nat.le_of_ble_eq_true rfl, Nat.le_of_ble_eq_true rfl, Nat.le_of_ble_eq_true rfl⟩ dX5_carryOut_52 (fun r52 σ52 => ?_)
    exact j_iret C hr hlocks rfl dX5_carryOut_55 (Nat.le_of_ble_eq_true rfl) (Nat.le_of_ble_eq_true rfl)
  refine j_ite (fun q8_1 => ?_) (fun q8_1 => ?_)
  · refine j_lin 56 C dX5_carryOut_8 q8_1 (by decide) rfl (by decide) ?_
    refine j_aload_n 0 C dX5_carryOut_56 rfl rfl ?_
    refine j_iload_n 1 C dX5_carryOut_57 rfl rfl ?_
    refine j_callVI [.int x1] (con5_carryOutPhoto N x1) C mi5_carryOutPhoto mv5_carryOutPhoto lk5_336 (by decide) (ct_0 E _) rfl rfl rfl ⟨Nat.le_of_ble_eq_true rfl, Nat.le_of_ble_eq_true rfl, Nat.le_of_ble_eq_true rfl, Nat.le_of_ble_eq_true rfl, Nat.le_of_ble_eq_true rfl⟩ dX5_carryOut_58 (fun r58 σ58 => ?_)
    exact j_iret C hr hlocks rfl dX5_carryOut_61 (Nat.le_of_ble_eq_true rfl) (Nat.le_of_ble_eq_true rfl)
  refine j_ite (fun q8_2 => ?_) (fun q8_2 => ?_)
  · refine j_lin 44 C dX5_carryOut_8 q8_2 (by decide) rfl (by decide) ?_
    refine j_aload_n 0 C dX5_carryOut_44 rfl rfl ?_
    refine j_iload_n 1 C dX5_carryOut_45 rfl rfl ?_
    refine j_callVI [.int x1] (con5_carryOutStory N x1) C mi5_carryOutStory mv5_carryOutStory lk5_330 (by decide) (ct_0 E _) rfl rfl rfl ⟨Nat.le_of_ble_eq_true rfl, Nat.le_of_ble_eq_true rfl, Nat.le_of_ble_eq_true rfl, Nat.le_of_ble_eq_true rfl, Nat.le_of_ble_eq_true rfl⟩ dX5_carryOut_46 (fun r46 σ46 => ?_)
    exact j_iret C hr hlocks rfl dX5_carryOut_49 (Nat.le_of_ble_eq_true rfl) (Nat.le_of_ble_eq_true rfl)
  refine j_lout (off := 54) 62 C dX5_carryOut_8 (by decide) ((lv_osw q8_0 (by decide)).trans ((lv_osw q8_1 (by decide)).trans ((lv_osw q8_2 (by decide)).trans rfl))) (by decide) ?_
  refine j_aload_n 0 C dX5_carryOut_62 rfl rfl ?_
  refine j_iload_n 1 C dX5_carryOut_63 rfl rfl ?_
  refine j_callVI [.int x1] (con5_carryOutLate N x1) C mi5_carryOutLate mv5_carryOutLate lk5_339 (by decide) (ct_0 E _) rfl rfl rfl ⟨Nat.le_of_ble_eq_true rfl, Nat.le_of_ble_eq_true rfl, Nat.le_of_ble_eq_true rfl, Nat.le_of_ble_eq_true rfl, Nat.le_of_ble_eq_true rfl⟩ dX5_carryOut_64 (fun r64 σ64 => ?_)
  exact j_iret C hr hlocks rfl dX5_carryOut_67 (Nat.le_of_ble_eq_true rfl) (Nat.le_of_ble_eq_true rfl)
set_option maxHeartbeats 4000000 in
set_option maxRecDepth 100000 in
theorem con5_perform (N : Nat) : CoXI yX5_perform cX5_perform 4 .int rm5_perform (fun E => [.ref (ea E 0)]) (f5_perform N) := by
  refine coXI_of (L := fun E => [(0, .ref (ea E 0))]) (by decide) (fun _ => Nat.le_of_ble_eq_true rfl) (fun _ => rfl) ?_
  intro l E σ p e s m args below meth c C hr hlocks hT ht
  have wL31 : ∀ (K31 : Hp → Option ((Int32 ⊕ Nat) × Hp)), (∀ (σ : Hp), J E 4 p l e rm5_perform s m args below meth c (XI E below args s rm5_perform.cells rm5_perform.slots) (K31 σ) 81 [(0, .ref (ea E 0))] [] σ 0 0) → ∀ (n31 : Nat) (x2 : Int32) (σ : Hp), J E 4 p l e rm5_perform s m args below meth c (XI E below args s rm5_perform.cells rm5_perform.slots) (f5_perform_L31 N K31 n31 x2 σ) 31 [(0, .ref (ea E 0)), (2, .int x2)] [] σ 0 0 := by
    intro K31 HK31 n31
    induction n31 with
    | zero => intro x2 σ; exact j_none
    | succ n31 ih31 =>
      intro x2 σ
      show J E 4 p l e rm5_perform s m args below meth c (XI E below args s rm5_perform.cells rm5_perform.slots) (f5_perform_B31 N K31 (f5_perform_L31 N K31 n31) x2 σ) 31 [(0, .ref (ea E 0)), (2, .int x2)] [] σ 0 0
      unfold f5_perform_B31
      refine j_iload_n 1 C dX5_perform_31 rfl rfl ?_
      refine j_aload_n 0 C dX5_perform_32 rfl rfl ?_
      refine j_get 7 C fl5_50 (by decide) (ct_0 E _) rfl dX5_perform_33 ?_
      refine j_callVI [] (con0_commandCount N) C mi0_commandCount mv0_commandCount lk5_309 (by decide) (ct_79 E _) rfl rfl rfl ⟨Nat.le_of_ble_eq_true rfl, Nat.le_of_ble_eq_true rfl, Nat.le_of_ble_eq_true rfl, Nat.le_of_ble_eq_true rfl, Nat.le_of_ble_eq_true rfl⟩ dX5_perform_36 (fun r36 σ36 => ?_)
      refine j_ige 81 C dX5_perform_39 (by decide) ?_ ?_
      · exact j_sub [0] rfl (HK31 σ36)
      · refine j_aload_n 0 C dX5_perform_42 rfl rfl ?_
        refine j_iload_n 1 C dX5_perform_43 rfl rfl ?_
        refine j_callVI [.int x2] (con5_carryOut N x2) C mi5_carryOut mv5_carryOut lk5_312 (by decide) (ct_0 E _) rfl rfl rfl ⟨Nat.le_of_ble_eq_true rfl, Nat.le_of_ble_eq_true rfl, Nat.le_of_ble_eq_true rfl, Nat.le_of_ble_eq_true rfl, Nat.le_of_ble_eq_true rfl⟩ dX5_perform_44 (fun r44 σ44 => ?_)
        refine j_istore_n [(3, .int r44), (0, .ref (ea E 0)), (2, .int x2)] C dX5_perform_47 rfl (by decide) rfl ?_
        refine j_iload_n 0 C dX5_perform_48 rfl rfl ?_
        refine j_zeq 75 C dX5_perform_49 (by decide) ?_ ?_
        · refine j_iinc 2 1 [(2, .int (x2 + 1)), (3, .int r44), (0, .ref (ea E 0))] C dX5_perform_75 rfl rfl (by decide) rfl ?_
          refine j_goto 31 C dX5_perform_78 (by decide) ?_
          exact j_sub [2, 0] rfl (ih31 (x2 + 1) σ44)
        · refine j_aload_n 1 C dX5_perform_52 rfl rfl ?_
          refine j_iconst (v := 1) 1 C dX5_perform_53 (by decide) ?_
          refine j_put 9 C fl5_315 rfl rfl rfl (by decide) (ct_0 E _) (Nat.le_of_ble_eq_true rfl) (ct_0 E _) dX5_perform_54 ?_
          refine j_aload_n 1 C dX5_perform_57 rfl rfl ?_
          refine j_iload_n 2 C dX5_perform_58 rfl rfl ?_
          refine j_put 10 C fl5_319 rfl rfl rfl (by decide) (ct_0 E _) (Nat.le_of_ble_eq_true rfl) (ct_0 E _) dX5_perform_59 ?_
          refine j_aload_n 1 C dX5_perform_62 rfl rfl ?_
          refine j_iload_n 0 C dX5_perform_63 rfl rfl ?_
          refine j_put 11 C fl5_323 rfl rfl rfl (by decide) (ct_0 E _) (Nat.le_of_ble_eq_true rfl) (ct_0 E _) dX5_perform_64 ?_
          exact j_throw C hT ht hlocks th5_269_271 dX5_perform_67 dX5_perform_70 dX5_perform_71 dX5_perform_74 ⟨Nat.le_of_ble_eq_true rfl, Nat.le_of_ble_eq_true rfl, Nat.le_of_ble_eq_true rfl, Nat.le_of_ble_eq_true rfl⟩ (Nat.le_of_ble_eq_true rfl) (Nat.le_of_ble_eq_true rfl)
  unfold f5_perform
  refine j_aload_n 0 C dX5_perform_0 rfl rfl ?_
  refine j_get 7 C fl5_50 (by decide) (ct_0 E _) rfl dX5_perform_1 ?_
  refine j_callVI [] (con0_parseAndEmpty N) C mi0_parseAndEmpty mv0_parseAndEmpty lk5_306 (by decide) (ct_79 E _) rfl rfl rfl ⟨Nat.le_of_ble_eq_true rfl, Nat.le_of_ble_eq_true rfl, Nat.le_of_ble_eq_true rfl, Nat.le_of_ble_eq_true rfl, Nat.le_of_ble_eq_true rfl⟩ dX5_perform_4 (fun r4 σ4 => ?_)
  refine j_istore_n [(1, .int r4), (0, .ref (ea E 0))] C dX5_perform_7 rfl (by decide) rfl ?_
  refine j_iload_n 0 C dX5_perform_8 rfl rfl ?_
  refine j_iconst (v := (-1)) (-1) C dX5_perform_9 (by decide) ?_
  refine j_ieq 18 C dX5_perform_10 (by decide) ?_ ?_
  · refine j_aload_n 1 C dX5_perform_18 rfl rfl ?_
    refine j_get 2 C fl5_24 (by decide) (ct_0 E _) rfl dX5_perform_19 ?_
    refine j_aload_n 1 C dX5_perform_22 rfl rfl ?_
    refine j_get 0 C fl5_20 (by decide) (ct_0 E _) rfl dX5_perform_23 ?_
    refine j_callVV [.ref (ea E 1)] (con1_copyFrom N 6 1 ⟨by decide, by decide⟩ ⟨by decide, by decide⟩) C mi1_copyFrom mv1_copyFrom lk5_199 (E_lt ⟨by decide, by decide⟩) (ct_E E ⟨by decide, by decide⟩ _) rfl rfl rfl ⟨Nat.le_of_ble_eq_true rfl, Nat.le_of_ble_eq_true rfl, Nat.le_of_ble_eq_true rfl, Nat.le_of_ble_eq_true rfl, Nat.le_of_ble_eq_true rfl⟩ dX5_perform_26 (fun σ26 => ?_)
    refine j_iconst (v := 0) 0 C dX5_perform_29 (by decide) ?_
    refine j_istore_n [(2, .int 0), (1, .int r4), (0, .ref (ea E 0))] C dX5_perform_30 rfl (by decide) rfl ?_
    refine j_sub [2, 0] rfl (wL31 _ (fun σL31 => ?_) N 0 σ26)
    refine j_aload_n 0 C dX5_perform_81 rfl rfl ?_
    refine j_get 4 C fl5_30 (by decide) (ct_0 E _) rfl dX5_perform_82 ?_
    refine j_aload_n 0 C dX5_perform_85 rfl rfl ?_
    refine j_get 0 C fl5_20 (by decide) (ct_0 E _) rfl dX5_perform_86 ?_
    refine j_callVV [.ref (ea E 1)] (con2_remember N 1 ⟨by decide, by decide⟩) C mi2_remember mv2_remember lk5_62 (by decide) (ct_74 E _) rfl rfl rfl ⟨Nat.le_of_ble_eq_true rfl, Nat.le_of_ble_eq_true rfl, Nat.le_of_ble_eq_true rfl, Nat.le_of_ble_eq_true rfl, Nat.le_of_ble_eq_true rfl⟩ dX5_perform_89 (fun σ89 => ?_)
    refine j_aload_n 0 C dX5_perform_92 rfl rfl ?_
    refine j_get 0 C fl5_20 (by decide) (ct_0 E _) rfl dX5_perform_93 ?_
    refine j_aload_n 0 C dX5_perform_96 rfl rfl ?_
    refine j_get 2 C fl5_24 (by decide) (ct_0 E _) rfl dX5_perform_97 ?_
    refine j_callVV [.ref (ea E 6)] (con1_copyFrom N 1 6 ⟨by decide, by decide⟩ ⟨by decide, by decide⟩) C mi1_copyFrom mv1_copyFrom lk5_199 (E_lt ⟨by decide, by decide⟩) (ct_E E ⟨by decide, by decide⟩ _) rfl rfl rfl ⟨Nat.le_of_ble_eq_true rfl, Nat.le_of_ble_eq_true rfl, Nat.le_of_ble_eq_true rfl, Nat.le_of_ble_eq_true rfl, Nat.le_of_ble_eq_true rfl⟩ dX5_perform_100 (fun σ100 => ?_)
    refine j_aload_n 0 C dX5_perform_103 rfl rfl ?_
    refine j_get 1 C fl5_12 (by decide) (ct_0 E _) rfl dX5_perform_104 ?_
    refine j_callVV [] (con3_layOut N 56 (Or.inl rfl)) C mi3_layOut mv3_layOut lk5_69 (P_lt (Or.inl rfl)) (ct_P E (Or.inl rfl) _) rfl rfl rfl ⟨Nat.le_of_ble_eq_true rfl, Nat.le_of_ble_eq_true rfl, Nat.le_of_ble_eq_true rfl, Nat.le_of_ble_eq_true rfl, Nat.le_of_ble_eq_true rfl⟩ dX5_perform_107 (fun σ107 => ?_)
    refine j_aload_n 0 C dX5_perform_110 rfl rfl ?_
    refine j_get 7 C fl5_50 (by decide) (ct_0 E _) rfl dX5_perform_111 ?_
    refine j_callVI [] (con0_commandCount N) C mi0_commandCount mv0_commandCount lk5_309 (by decide) (ct_79 E _) rfl rfl rfl ⟨Nat.le_of_ble_eq_true rfl, Nat.le_of_ble_eq_true rfl, Nat.le_of_ble_eq_true rfl, Nat.le_of_ble_eq_true rfl, Nat.le_of_ble_eq_true rfl⟩ dX5_perform_114 (fun r114 σ114 => ?_)
    exact j_xiret C hr hlocks rfl dX5_perform_117 (Nat.le_of_ble_eq_true rfl) (Nat.le_of_ble_eq_true rfl)
  · refine j_bipush (v := (-100)) (-100) C dX5_perform_13 (by decide) ?_
    refine j_iload_n 0 C dX5_perform_15 rfl rfl ?_
    refine j_isub C dX5_perform_16 ?_
    exact j_xiret C hr hlocks rfl dX5_perform_17 (Nat.le_of_ble_eq_true rfl) (Nat.le_of_ble_eq_true rfl)
set_option maxHeartbeats 4000000 in
set_option maxRecDepth 100000 in
theorem con5_report (N : Nat) (x1 : Int32) (x2 : Int32) : CoXI yX5_report cX5_report 3 .int rm5_report (fun E => [.ref (ea E 0), .int x1, .int x2]) (f5_report N x1 x2) := by
  refine coXI_of (L := fun E => [(0, .ref (ea E 0)), (1, .int x1), (2, .int x2)]) (by decide) (fun _ => Nat.le_of_ble_eq_true rfl) (fun _ => rfl) ?_
  intro l E σ p e s m args below meth c C hr hlocks hT ht
  unfold f5_report
  refine j_aload_n 0 C dX5_report_0 rfl rfl ?_
  refine j_get 9 C fl5_315 (by decide) (ct_0 E _) rfl dX5_report_1 ?_
  refine j_zeq 16 C dX5_report_4 (by decide) ?_ ?_
  · exact j_throw C hT ht hlocks th5_163_165 dX5_report_16 dX5_report_19 dX5_report_20 dX5_report_23 ⟨Nat.le_of_ble_eq_true rfl, Nat.le_of_ble_eq_true rfl, Nat.le_of_ble_eq_true rfl, Nat.le_of_ble_eq_true rfl⟩ (Nat.le_of_ble_eq_true rfl) (Nat.le_of_ble_eq_true rfl)
  · refine j_iload_n 1 C dX5_report_7 rfl rfl ?_
    refine j_zlt 16 C dX5_report_8 (by decide) ?_ ?_
    · exact j_throw C hT ht hlocks th5_163_165 dX5_report_16 dX5_report_19 dX5_report_20 dX5_report_23 ⟨Nat.le_of_ble_eq_true rfl, Nat.le_of_ble_eq_true rfl, Nat.le_of_ble_eq_true rfl, Nat.le_of_ble_eq_true rfl⟩ (Nat.le_of_ble_eq_true rfl) (Nat.le_of_ble_eq_true rfl)
    · refine j_iload_n 1 C dX5_report_11 rfl rfl ?_
      refine j_iconst (v := 1) 1 C dX5_report_12 (by decide) ?_
      refine j_ile 24 C dX5_report_13 (by decide) ?_ ?_
      · refine j_iload_n 2 C dX5_report_24 rfl rfl ?_
        refine j_zlt 33 C dX5_report_25 (by decide) ?_ ?_
        · exact j_throw C hT ht hlocks th5_106_108 dX5_report_33 dX5_report_36 dX5_report_37 dX5_report_40 ⟨Nat.le_of_ble_eq_true rfl, Nat.le_of_ble_eq_true rfl, Nat.le_of_ble_eq_true rfl, Nat.le_of_ble_eq_true rfl⟩ (Nat.le_of_ble_eq_true rfl) (Nat.le_of_ble_eq_true rfl)
        · refine j_iload_n 2 C dX5_report_28 rfl rfl ?_
          refine j_iconst (v := 1) 1 C dX5_report_29 (by decide) ?_
          refine j_ile 41 C dX5_report_30 (by decide) ?_ ?_
          · refine j_iload_n 2 C dX5_report_41 rfl rfl ?_
            refine j_zne 49 C dX5_report_42 (by decide) ?_ ?_
            · refine j_iload_n 1 C dX5_report_49 rfl rfl ?_
              refine j_zne 60 C dX5_report_50 (by decide) ?_ ?_
              · refine j_aload_n 0 C dX5_report_60 rfl rfl ?_
                refine j_get 11 C fl5_323 (by decide) (ct_0 E _) rfl dX5_report_61 ?_
                exact j_xiret C hr hlocks rfl dX5_report_64 (Nat.le_of_ble_eq_true rfl) (Nat.le_of_ble_eq_true rfl)
              · refine j_aload_n 0 C dX5_report_53 rfl rfl ?_
                refine j_get 10 C fl5_319 (by decide) (ct_0 E _) rfl dX5_report_54 ?_
                refine j_goto 64 C dX5_report_57 (by decide) ?_
                exact j_xiret C hr hlocks rfl dX5_report_64 (Nat.le_of_ble_eq_true rfl) (Nat.le_of_ble_eq_true rfl)
            · refine j_iload_n 1 C dX5_report_45 rfl rfl ?_
              refine j_iconst (v := 1) 1 C dX5_report_46 (by decide) ?_
              refine j_iadd C dX5_report_47 ?_
              exact j_xiret C hr hlocks rfl dX5_report_48 (Nat.le_of_ble_eq_true rfl) (Nat.le_of_ble_eq_true rfl)
          · exact j_throw C hT ht hlocks th5_106_108 dX5_report_33 dX5_report_36 dX5_report_37 dX5_report_40 ⟨Nat.le_of_ble_eq_true rfl, Nat.le_of_ble_eq_true rfl, Nat.le_of_ble_eq_true rfl, Nat.le_of_ble_eq_true rfl⟩ (Nat.le_of_ble_eq_true rfl) (Nat.le_of_ble_eq_true rfl)
      · exact j_throw C hT ht hlocks th5_163_165 dX5_report_16 dX5_report_19 dX5_report_20 dX5_report_23 ⟨Nat.le_of_ble_eq_true rfl, Nat.le_of_ble_eq_true rfl, Nat.le_of_ble_eq_true rfl, Nat.le_of_ble_eq_true rfl⟩ (Nat.le_of_ble_eq_true rfl) (Nat.le_of_ble_eq_true rfl)
set_option maxHeartbeats 4000000 in
set_option maxRecDepth 100000 in
theorem con5_undo (N : Nat) : CoXI yX5_undo cX5_undo 2 .int rm5_undo (fun E => [.ref (ea E 0)]) (f5_undo N) := by
  refine coXI_of (L := fun E => [(0, .ref (ea E 0))]) (by decide) (fun _ => Nat.le_of_ble_eq_true rfl) (fun _ => rfl) ?_
  intro l E σ p e s m args below meth c C hr hlocks hT ht
  unfold f5_undo
  refine j_aload_n 0 C dX5_undo_0 rfl rfl ?_
  refine j_get 4 C fl5_30 (by decide) (ct_0 E _) rfl dX5_undo_1 ?_
  refine j_callVI [] (con2_isEmpty N) C mi2_isEmpty mv2_isEmpty lk5_345 (by decide) (ct_74 E _) rfl rfl rfl ⟨Nat.le_of_ble_eq_true rfl, Nat.le_of_ble_eq_true rfl, Nat.le_of_ble_eq_true rfl, Nat.le_of_ble_eq_true rfl, Nat.le_of_ble_eq_true rfl⟩ dX5_undo_4 (fun r4 σ4 => ?_)
  refine j_zeq 18 C dX5_undo_7 (by decide) ?_ ?_
  · refine j_aload_n 0 C dX5_undo_18 rfl rfl ?_
    refine j_get 4 C fl5_30 (by decide) (ct_0 E _) rfl dX5_undo_19 ?_
    refine j_aload_n 0 C dX5_undo_22 rfl rfl ?_
    refine j_get 0 C fl5_20 (by decide) (ct_0 E _) rfl dX5_undo_23 ?_
    refine j_callVI [.ref (ea E 1)] (con2_takeBack N 1 ⟨by decide, by decide⟩) C mi2_takeBack mv2_takeBack lk5_348 (by decide) (ct_74 E _) rfl rfl rfl ⟨Nat.le_of_ble_eq_true rfl, Nat.le_of_ble_eq_true rfl, Nat.le_of_ble_eq_true rfl, Nat.le_of_ble_eq_true rfl, Nat.le_of_ble_eq_true rfl⟩ dX5_undo_26 (fun r26 σ26 => ?_)
    refine j_istore_n [(1, .int r26), (0, .ref (ea E 0))] C dX5_undo_29 rfl (by decide) rfl ?_
    refine j_aload_n 1 C dX5_undo_30 rfl rfl ?_
    refine j_get 1 C fl5_12 (by decide) (ct_0 E _) rfl dX5_undo_31 ?_
    refine j_callVV [] (con3_layOut N 56 (Or.inl rfl)) C mi3_layOut mv3_layOut lk5_69 (P_lt (Or.inl rfl)) (ct_P E (Or.inl rfl) _) rfl rfl rfl ⟨Nat.le_of_ble_eq_true rfl, Nat.le_of_ble_eq_true rfl, Nat.le_of_ble_eq_true rfl, Nat.le_of_ble_eq_true rfl, Nat.le_of_ble_eq_true rfl⟩ dX5_undo_34 (fun σ34 => ?_)
    refine j_iload_n 0 C dX5_undo_37 rfl rfl ?_
    exact j_xiret C hr hlocks rfl dX5_undo_38 (Nat.le_of_ble_eq_true rfl) (Nat.le_of_ble_eq_true rfl)
  · exact j_throw C hT ht hlocks th5_295_297 dX5_undo_10 dX5_undo_13 dX5_undo_14 dX5_undo_17 ⟨Nat.le_of_ble_eq_true rfl, Nat.le_of_ble_eq_true rfl, Nat.le_of_ble_eq_true rfl, Nat.le_of_ble_eq_true rfl⟩ (Nat.le_of_ble_eq_true rfl) (Nat.le_of_ble_eq_true rfl)
set_option maxHeartbeats 4000000 in
set_option maxRecDepth 100000 in
theorem con5_save (N : Nat) : ConI yX5_save cX5_save 1 .int rm5_save (fun E => [.ref (ea E 0)]) (f5_save N) := by
  refine conI_of (L := fun E => [(0, .ref (ea E 0))]) (by decide) (fun _ => Nat.le_of_ble_eq_true rfl) (fun _ => rfl) ?_
  intro l E σ p e s m args below meth c C hr hlocks
  unfold f5_save
  refine j_aload_n 0 C dX5_save_0 rfl rfl ?_
  refine j_get 5 C fl5_37 (by decide) (ct_0 E _) rfl dX5_save_1 ?_
  refine j_aload_n 0 C dX5_save_4 rfl rfl ?_
  refine j_get 0 C fl5_20 (by decide) (ct_0 E _) rfl dX5_save_5 ?_
  refine j_callVV [.ref (ea E 1)] (con1_copyFrom N 11 1 ⟨by decide, by decide⟩ ⟨by decide, by decide⟩) C mi1_copyFrom mv1_copyFrom lk5_199 (E_lt ⟨by decide, by decide⟩) (ct_E E ⟨by decide, by decide⟩ _) rfl rfl rfl ⟨Nat.le_of_ble_eq_true rfl, Nat.le_of_ble_eq_true rfl, Nat.le_of_ble_eq_true rfl, Nat.le_of_ble_eq_true rfl, Nat.le_of_ble_eq_true rfl⟩ dX5_save_8 (fun σ8 => ?_)
  refine j_aload_n 0 C dX5_save_11 rfl rfl ?_
  refine j_iconst (v := 1) 1 C dX5_save_12 (by decide) ?_
  refine j_put 8 C fl5_352 rfl rfl rfl (by decide) (ct_0 E _) (Nat.le_of_ble_eq_true rfl) (ct_0 E _) dX5_save_13 ?_
  refine j_aload_n 0 C dX5_save_16 rfl rfl ?_
  refine j_get 0 C fl5_20 (by decide) (ct_0 E _) rfl dX5_save_17 ?_
  refine j_callVI [] (con1_storyCount N 1 ⟨by decide, by decide⟩) C mi1_storyCount mv1_storyCount lk5_122 (E_lt ⟨by decide, by decide⟩) (ct_E E ⟨by decide, by decide⟩ _) rfl rfl rfl ⟨Nat.le_of_ble_eq_true rfl, Nat.le_of_ble_eq_true rfl, Nat.le_of_ble_eq_true rfl, Nat.le_of_ble_eq_true rfl, Nat.le_of_ble_eq_true rfl⟩ dX5_save_20 (fun r20 σ20 => ?_)
  exact j_iret C hr hlocks rfl dX5_save_23 (Nat.le_of_ble_eq_true rfl) (Nat.le_of_ble_eq_true rfl)
set_option maxHeartbeats 4000000 in
set_option maxRecDepth 100000 in
theorem con5_restore (N : Nat) : CoXI yX5_restore cX5_restore 1 .int rm5_restore (fun E => [.ref (ea E 0)]) (f5_restore N) := by
  refine coXI_of (L := fun E => [(0, .ref (ea E 0))]) (by decide) (fun _ => Nat.le_of_ble_eq_true rfl) (fun _ => rfl) ?_
  intro l E σ p e s m args below meth c C hr hlocks hT ht
  unfold f5_restore
  refine j_aload_n 0 C dX5_restore_0 rfl rfl ?_
  refine j_get 8 C fl5_352 (by decide) (ct_0 E _) rfl dX5_restore_1 ?_
  refine j_zne 15 C dX5_restore_4 (by decide) ?_ ?_
  · refine j_aload_n 0 C dX5_restore_15 rfl rfl ?_
    refine j_get 0 C fl5_20 (by decide) (ct_0 E _) rfl dX5_restore_16 ?_
    refine j_aload_n 0 C dX5_restore_19 rfl rfl ?_
    refine j_get 5 C fl5_37 (by decide) (ct_0 E _) rfl dX5_restore_20 ?_
    refine j_callVV [.ref (ea E 11)] (con1_copyFrom N 1 11 ⟨by decide, by decide⟩ ⟨by decide, by decide⟩) C mi1_copyFrom mv1_copyFrom lk5_199 (E_lt ⟨by decide, by decide⟩) (ct_E E ⟨by decide, by decide⟩ _) rfl rfl rfl ⟨Nat.le_of_ble_eq_true rfl, Nat.le_of_ble_eq_true rfl, Nat.le_of_ble_eq_true rfl, Nat.le_of_ble_eq_true rfl, Nat.le_of_ble_eq_true rfl⟩ dX5_restore_23 (fun σ23 => ?_)
    refine j_aload_n 0 C dX5_restore_26 rfl rfl ?_
    refine j_get 4 C fl5_30 (by decide) (ct_0 E _) rfl dX5_restore_27 ?_
    refine j_callVV [] (con2_forget N) C mi2_forget mv2_forget lk5_355 (by decide) (ct_74 E _) rfl rfl rfl ⟨Nat.le_of_ble_eq_true rfl, Nat.le_of_ble_eq_true rfl, Nat.le_of_ble_eq_true rfl, Nat.le_of_ble_eq_true rfl, Nat.le_of_ble_eq_true rfl⟩ dX5_restore_30 (fun σ30 => ?_)
    refine j_aload_n 0 C dX5_restore_33 rfl rfl ?_
    refine j_get 1 C fl5_12 (by decide) (ct_0 E _) rfl dX5_restore_34 ?_
    refine j_callVV [] (con3_layOut N 56 (Or.inl rfl)) C mi3_layOut mv3_layOut lk5_69 (P_lt (Or.inl rfl)) (ct_P E (Or.inl rfl) _) rfl rfl rfl ⟨Nat.le_of_ble_eq_true rfl, Nat.le_of_ble_eq_true rfl, Nat.le_of_ble_eq_true rfl, Nat.le_of_ble_eq_true rfl, Nat.le_of_ble_eq_true rfl⟩ dX5_restore_37 (fun σ37 => ?_)
    refine j_aload_n 0 C dX5_restore_40 rfl rfl ?_
    refine j_get 0 C fl5_20 (by decide) (ct_0 E _) rfl dX5_restore_41 ?_
    refine j_callVI [] (con1_storyCount N 1 ⟨by decide, by decide⟩) C mi1_storyCount mv1_storyCount lk5_122 (E_lt ⟨by decide, by decide⟩) (ct_E E ⟨by decide, by decide⟩ _) rfl rfl rfl ⟨Nat.le_of_ble_eq_true rfl, Nat.le_of_ble_eq_true rfl, Nat.le_of_ble_eq_true rfl, Nat.le_of_ble_eq_true rfl, Nat.le_of_ble_eq_true rfl⟩ dX5_restore_44 (fun r44 σ44 => ?_)
    exact j_xiret C hr hlocks rfl dX5_restore_47 (Nat.le_of_ble_eq_true rfl) (Nat.le_of_ble_eq_true rfl)
  · exact j_throw C hT ht hlocks th5_295_297 dX5_restore_7 dX5_restore_10 dX5_restore_11 dX5_restore_14 ⟨Nat.le_of_ble_eq_true rfl, Nat.le_of_ble_eq_true rfl, Nat.le_of_ble_eq_true rfl, Nat.le_of_ble_eq_true rfl⟩ (Nat.le_of_ble_eq_true rfl) (Nat.le_of_ble_eq_true rfl)
