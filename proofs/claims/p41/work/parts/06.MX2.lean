set_option maxHeartbeats 4000000 in
set_option maxRecDepth 100000 in
theorem M_X2_useWater (l : Launch) (D : va_G) (tc : Nat → ClassId) (ad : Oid → Nat) (A : Nat → Prop) (j0 : Nat) (hj0 : j0 < 4) (j1 : Nat) (i1 : Nat) (hj1 : j1 < 4) (hi1 : i1 < 12) (x2 : Int32) {σ : Mem} {Qr : Mem → Prop} (hJ : J_X2_useWater j0 j1 i1 x2 σ Qr) : Met l yX2_useWater wsX2_useWater ({ frames := 2, cells := 0, slots := 0, locals := 42 }) (va_Pc [.ref (ad (7, j0, 0)), .ref (ad (14, j1, i1)), .int x2] (WdI D vwCl (tysX tc) idsX ad (ceX tc ad) A σ)) (va_Qv (fun (u : Mem) => Qr u) (WdO D vwCl idsX ad (ceX tc ad) A) A) 0 0 A := by
  refine V_metv (cc := cX2_useWater) (nL := 7) (ret := none) (own := RX2) rfl (plainFor_of_name (by decide)) rfl rfl (Nat.le_of_ble_eq_true rfl) ?_
  intro p e s m below meth c C hr hlocks
  refine V_sub (lv' := [(0, .ref (ad (7, j0, 0))), (1, .ref (ad (14, j1, i1))), (2, .int x2)]) [0, 1, 2] rfl ?_
  have f140 : Cond.fieldLink RX2 140 (TX4 7).1 (TX4 7).2.1 (TX4 7).2.2.1 ∈ wsX2_useWater := List.mem_of_getElem? (i := 1) rfl
  have uX4 : ∀ w ∈ u_ws RX4 TX4 12, w ∈ wsX2_useWater := by decide +kernel
  have f143 : Cond.fieldLink RX2 143 (TX4 8).1 (TX4 8).2.1 (TX4 8).2.2.1 ∈ wsX2_useWater := List.mem_of_getElem? (i := 6) rfl
  have f146 : Cond.fieldLink RX2 146 (TX4 10).1 (TX4 10).2.1 (TX4 10).2.2.1 ∈ wsX2_useWater := List.mem_of_getElem? (i := 7) rfl
  have f101 : Cond.fieldLink RX2 101 (TX4 11).1 (TX4 11).2.1 (TX4 11).2.2.1 ∈ wsX2_useWater := List.mem_of_getElem? (i := 8) rfl
  have f30 : Cond.fieldLink RX2 30 (TX2 4).1 (TX2 4).2.1 (TX2 4).2.2.1 ∈ wsX2_useWater := List.mem_of_getElem? (i := 9) rfl
  have uX2 : ∀ w ∈ u_ws RX2 TX2 10, w ∈ wsX2_useWater := by decide +kernel
  unfold J_X2_useWater at hJ
  refine V_aload_n C dX2_useWater_0 1 rfl ?_
  refine V_aload_n C dX2_useWater_1 0 rfl ?_
  refine V_cVi (st := [.ref (ad (14, j1, i1))]) (ci := 2) C (ok7 hj0) ⟨Nat.zero_le _, Nat.zero_le _⟩ (M_X2_hourOfDay l D tc ad A j0 hj0 hJ) (cwV 0 C.1.2.2.2.2 gX2_useWater_X2_hourOfDay rfl rfl rfl (by decide +kernel) ⟨Nat.le_of_ble_eq_true rfl, Nat.le_of_ble_eq_true rfl⟩) rfl rfl rfl rfl (Nat.le_of_ble_eq_true rfl) dX2_useWater_2 (fun r1 τ1 hJ => ?_)
  refine V_cVi (st := []) (ci := 4) C (ok14 hj1 hi1) ⟨Nat.zero_le _, Nat.zero_le _⟩ (M_X4_needAt l D tc ad A j1 i1 hj1 hi1 r1 hJ) (cwV 1 C.1.2.2.2.2 gX2_useWater_X4_needAt rfl rfl rfl (by decide +kernel) ⟨Nat.le_of_ble_eq_true rfl, Nat.le_of_ble_eq_true rfl⟩) rfl rfl rfl rfl (Nat.le_of_ble_eq_true rfl) dX2_useWater_5 (fun r2 τ2 hJ => ?_)
  refine V_istore_n (lv' := [(3, .int r2), (0, .ref (ad (7, j0, 0))), (1, .ref (ad (14, j1, i1))), (2, .int x2)]) C dX2_useWater_8 (by decide) rfl ?_
  refine V_iload_n C dX2_useWater_9 3 rfl ?_
  refine V_aload_n C dX2_useWater_10 2 rfl ?_
  refine V_get (ci := 4) C (ok14 hj1 hi1) uX4 rfl 7 (Nat.le_of_ble_eq_true rfl) rfl rfl f140 dX2_useWater_11 ?_
  refine V_iadd C dX2_useWater_14 ?_
  refine V_topi (fun x4_3 hx4_3 => ?_)
  replace hJ := hJ x4_3 hx4_3
  refine V_istore (lv' := [(4, .int x4_3), (3, .int r2), (0, .ref (ad (7, j0, 0))), (1, .ref (ad (14, j1, i1))), (2, .int x2)]) C dX2_useWater_15 (by decide) rfl ?_
  refine V_iload_n C dX2_useWater_17 1 rfl ?_
  refine V_iload C dX2_useWater_18 0 rfl ?_
  refine V_mmin C ⟨Nat.zero_le _, Nat.zero_le _⟩ (List.mem_of_getElem? (i := 2) rfl) (List.mem_of_getElem? (i := 3) rfl) (List.mem_of_getElem? (i := 4) rfl) (List.mem_of_getElem? (i := 5) rfl) (Nat.le_of_ble_eq_true rfl) (Nat.le_of_ble_eq_true rfl) dX2_useWater_20 ?_
  refine V_topi (fun x5_4 hx5_4 => ?_)
  replace hJ := hJ x5_4 hx5_4
  refine V_istore (lv' := [(5, .int x5_4), (4, .int x4_3), (3, .int r2), (0, .ref (ad (7, j0, 0))), (1, .ref (ad (14, j1, i1))), (2, .int x2)]) C dX2_useWater_23 (by decide) rfl ?_
  refine V_aload_n C dX2_useWater_25 4 rfl ?_
  refine V_get (ci := 4) C (ok14 hj1 hi1) uX4 rfl 8 (Nat.le_of_ble_eq_true rfl) rfl rfl f143 dX2_useWater_26 ?_
  refine V_iload C dX2_useWater_29 1 rfl ?_
  refine V_iload C dX2_useWater_31 0 rfl ?_
  refine V_isub C dX2_useWater_33 ?_
  refine V_mmin C ⟨Nat.zero_le _, Nat.zero_le _⟩ (List.mem_of_getElem? (i := 2) rfl) (List.mem_of_getElem? (i := 3) rfl) (List.mem_of_getElem? (i := 4) rfl) (List.mem_of_getElem? (i := 5) rfl) (Nat.le_of_ble_eq_true rfl) (Nat.le_of_ble_eq_true rfl) dX2_useWater_34 ?_
  refine V_topi (fun x6_5 hx6_5 => ?_)
  replace hJ := hJ x6_5 hx6_5
  refine V_istore (lv' := [(6, .int x6_5), (5, .int x5_4), (4, .int x4_3), (3, .int r2), (0, .ref (ad (7, j0, 0))), (1, .ref (ad (14, j1, i1))), (2, .int x2)]) C dX2_useWater_37 (by decide) rfl ?_
  refine V_aload_n C dX2_useWater_39 5 rfl ?_
  refine V_iload C dX2_useWater_40 2 rfl ?_
  refine V_iload C dX2_useWater_42 1 rfl ?_
  refine V_isub C dX2_useWater_44 ?_
  refine V_iload C dX2_useWater_45 0 rfl ?_
  refine V_isub C dX2_useWater_47 ?_
  refine V_put (ci := 4) C (ok14 hj1 hi1) uX4 tyX4 tyX4_ok nmX4 rfl 7 (Nat.le_of_ble_eq_true rfl) rfl rfl f140 rfl (ty := .int) (by decide +kernel) rfl rfl (Nat.le_of_ble_eq_true rfl) dX2_useWater_48 (fun τ6 hτ6 => ?_)
  replace hJ := hJ τ6 hτ6
  refine V_aload_n C dX2_useWater_51 5 rfl ?_
  refine V_dup C dX2_useWater_52 rfl ?_
  refine V_get (ci := 4) C (ok14 hj1 hi1) uX4 rfl 10 (Nat.le_of_ble_eq_true rfl) rfl rfl f146 dX2_useWater_53 ?_
  refine V_iload_n C dX2_useWater_56 3 rfl ?_
  refine V_iload C dX2_useWater_57 1 rfl ?_
  refine V_isub C dX2_useWater_59 ?_
  refine V_iadd C dX2_useWater_60 ?_
  refine V_put (ci := 4) C (ok14 hj1 hi1) uX4 tyX4 tyX4_ok nmX4 rfl 10 (Nat.le_of_ble_eq_true rfl) rfl rfl f146 rfl (ty := .int) (by decide +kernel) rfl rfl (Nat.le_of_ble_eq_true rfl) dX2_useWater_61 (fun τ7 hτ7 => ?_)
  replace hJ := hJ τ7 hτ7
  refine V_aload_n C dX2_useWater_64 5 rfl ?_
  refine V_iconst (v := 0) C dX2_useWater_65 ci_0 ?_
  refine V_put (ci := 4) C (ok14 hj1 hi1) uX4 tyX4 tyX4_ok nmX4 rfl 11 (Nat.le_of_ble_eq_true rfl) rfl rfl f101 rfl (ty := .boolean) (by decide +kernel) (isB_narrow (Or.inl rfl)) (isB_fits (Or.inl rfl)) (Nat.le_of_ble_eq_true rfl) dX2_useWater_66 (fun τ8 hτ8 => ?_)
  replace hJ := hJ τ8 hτ8
  refine V_aload_n C dX2_useWater_69 4 rfl ?_
  refine V_get (ci := 2) C (ok7 hj0) uX2 rfl 4 (Nat.le_of_ble_eq_true rfl) rfl rfl f30 dX2_useWater_70 ?_
  refine V_iconst (v := 3) C dX2_useWater_73 ci_3 ?_
  refine V_dup2 C dX2_useWater_74 rfl rfl ?_
  refine V_iald C (ok12 hj0) 0 rfl rfl ix_3 vpc_3_7 dX2_useWater_75 ?_
  refine V_iload_n C dX2_useWater_76 6 rfl ?_
  refine V_iadd C dX2_useWater_77 ?_
  refine V_iast C (ok12 hj0) 0 rfl (fun _ => rfl) ix_3 vpc_3_7 dX2_useWater_78 (fun τ9 hτ9 => ?_)
  replace hJ := hJ τ9 hτ9
  refine V_aload_n C dX2_useWater_79 4 rfl ?_
  refine V_get (ci := 2) C (ok7 hj0) uX2 rfl 4 (Nat.le_of_ble_eq_true rfl) rfl rfl f30 dX2_useWater_80 ?_
  refine V_iconst (v := 4) C dX2_useWater_83 ci_4 ?_
  refine V_dup2 C dX2_useWater_84 rfl rfl ?_
  refine V_iald C (ok12 hj0) 0 rfl rfl ix_4 vpc_4_7 dX2_useWater_85 ?_
  refine V_iload C dX2_useWater_86 1 rfl ?_
  refine V_iadd C dX2_useWater_88 ?_
  refine V_iast C (ok12 hj0) 0 rfl (fun _ => rfl) ix_4 vpc_4_7 dX2_useWater_89 (fun τ10 hτ10 => ?_)
  replace hJ := hJ τ10 hτ10
  refine V_aload_n C dX2_useWater_90 4 rfl ?_
  refine V_get (ci := 2) C (ok7 hj0) uX2 rfl 4 (Nat.le_of_ble_eq_true rfl) rfl rfl f30 dX2_useWater_91 ?_
  refine V_iconst (v := 5) C dX2_useWater_94 ci_5 ?_
  refine V_dup2 C dX2_useWater_95 rfl rfl ?_
  refine V_iald C (ok12 hj0) 0 rfl rfl ix_5 vpc_5_7 dX2_useWater_96 ?_
  refine V_iload C dX2_useWater_97 0 rfl ?_
  refine V_iadd C dX2_useWater_99 ?_
  refine V_iast C (ok12 hj0) 0 rfl (fun _ => rfl) ix_5 vpc_5_7 dX2_useWater_100 (fun τ11 hτ11 => ?_)
  replace hJ := hJ τ11 hτ11
  refine V_aload_n C dX2_useWater_101 4 rfl ?_
  refine V_get (ci := 2) C (ok7 hj0) uX2 rfl 4 (Nat.le_of_ble_eq_true rfl) rfl rfl f30 dX2_useWater_102 ?_
  refine V_bipush (v := 6) C dX2_useWater_105 cb_6 ?_
  refine V_dup2 C dX2_useWater_107 rfl rfl ?_
  refine V_iald C (ok12 hj0) 0 rfl rfl ix_6 vpc_6_7 dX2_useWater_108 ?_
  refine V_iload_n C dX2_useWater_109 3 rfl ?_
  refine V_iload C dX2_useWater_110 1 rfl ?_
  refine V_isub C dX2_useWater_112 ?_
  refine V_iadd C dX2_useWater_113 ?_
  refine V_iast C (ok12 hj0) 0 rfl (fun _ => rfl) ix_6 vpc_6_7 dX2_useWater_114 (fun τ12 hτ12 => ?_)
  replace hJ := hJ τ12 hτ12
  exact V_vret C hr hlocks dX2_useWater_115 hJ
set_option maxHeartbeats 4000000 in
set_option maxRecDepth 100000 in
theorem M_X2_passHour (l : Launch) (D : va_G) (tc : Nat → ClassId) (ad : Oid → Nat) (A : Nat → Prop) (j0 : Nat) (hj0 : j0 < 4) {σ : Mem} {Qr : Int32 → Mem → Prop} (hJ : J_X2_passHour j0 σ Qr) : Met l yX2_passHour wsX2_passHour ({ frames := 4, cells := 0, slots := 0, locals := 93 }) (va_Pc [.ref (ad (7, j0, 0)), .ref (ad (3, 0, 0))] (WdI D vwCl (tysX tc) idsX ad (ceX tc ad) A σ)) (va_Qi (fun (r : Int32) (u : Mem) => Qr r u) (WdO D vwCl idsX ad (ceX tc ad) A) A) 0 0 A := by
  refine V_meti (cc := cX2_passHour) (nL := 4) (ret := (some .int)) (own := RX2) rfl (plainFor_of_name (by decide)) rfl rfl (Nat.le_of_ble_eq_true rfl) ?_
  intro p e s m below meth c C hr hlocks
  refine V_sub (lv' := [(0, .ref (ad (7, j0, 0))), (1, .ref (ad (3, 0, 0)))]) [0, 1] rfl ?_
  have f30 : Cond.fieldLink RX2 30 (TX2 4).1 (TX2 4).2.1 (TX2 4).2.2.1 ∈ wsX2_passHour := List.mem_of_getElem? (i := 1) rfl
  have uX2 : ∀ w ∈ u_ws RX2 TX2 10, w ∈ wsX2_passHour := by decide +kernel
  have f124 : Cond.fieldLink RX2 124 (TX1 2).1 (TX1 2).2.1 (TX1 2).2.2.1 ∈ wsX2_passHour := List.mem_of_getElem? (i := 2) rfl
  have uX1 : ∀ w ∈ u_ws RX1 TX1 6, w ∈ wsX2_passHour := by decide +kernel
  have f49 : Cond.fieldLink RX2 49 (TX2 5).1 (TX2 5).2.1 (TX2 5).2.2.1 ∈ wsX2_passHour := List.mem_of_getElem? (i := 3) rfl
  have f64 : Cond.fieldLink RX2 64 (TX2 6).1 (TX2 6).2.1 (TX2 6).2.2.1 ∈ wsX2_passHour := List.mem_of_getElem? (i := 4) rfl
  have f71 : Cond.fieldLink RX2 71 (TX2 9).1 (TX2 9).2.1 (TX2 9).2.2.1 ∈ wsX2_passHour := List.mem_of_getElem? (i := 7) rfl
  have f19 : Cond.fieldLink RX2 19 (TX2 1).1 (TX2 1).2.1 (TX2 1).2.2.1 ∈ wsX2_passHour := List.mem_of_getElem? (i := 5) rfl
  have f133 : Cond.fieldLink RX2 133 (TX1 1).1 (TX1 1).2.1 (TX1 1).2.2.1 ∈ wsX2_passHour := List.mem_of_getElem? (i := 6) rfl
  unfold J_X2_passHour at hJ
  refine V_aload_n C dX2_passHour_0 1 rfl ?_
  refine V_aload_n C dX2_passHour_1 0 rfl ?_
  refine V_cVv (st := []) (ci := 1) C okX_3_0 ⟨Nat.zero_le _, Nat.zero_le _⟩ (M_X1_distribute l D tc ad A j0 hj0 hJ) (cwV 1 C.1.2.2.2.2 gX2_passHour_X1_distribute rfl rfl rfl (by decide +kernel) ⟨Nat.le_of_ble_eq_true rfl, Nat.le_of_ble_eq_true rfl⟩) rfl rfl rfl rfl (Nat.le_of_ble_eq_true rfl) dX2_passHour_2 (fun τ1 hJ => ?_)
  refine V_aload_n C dX2_passHour_5 0 rfl ?_
  refine V_get (ci := 2) C (ok7 hj0) uX2 rfl 4 (Nat.le_of_ble_eq_true rfl) rfl rfl f30 dX2_passHour_6 ?_
  refine V_bipush (v := 6) C dX2_passHour_9 cb_6 ?_
  refine V_iald C (ok12 hj0) 0 rfl rfl ix_6 vpc_6_7 dX2_passHour_11 ?_
  refine V_topi (fun x2_2 hx2_2 => ?_)
  replace hJ := hJ x2_2 hx2_2
  refine V_istore_n (lv' := [(2, .int x2_2), (0, .ref (ad (7, j0, 0))), (1, .ref (ad (3, 0, 0)))]) C dX2_passHour_12 (by decide) rfl ?_
  refine V_aload_n C dX2_passHour_13 1 rfl ?_
  refine V_get (ci := 2) C (ok7 hj0) uX2 rfl 4 (Nat.le_of_ble_eq_true rfl) rfl rfl f30 dX2_passHour_14 ?_
  refine V_iconst (v := 0) C dX2_passHour_17 ci_0 ?_
  refine V_dup2 C dX2_passHour_18 rfl rfl ?_
  refine V_iald C (ok12 hj0) 0 rfl rfl ix_0 vpc_0_7 dX2_passHour_19 ?_
  refine V_aload_n C dX2_passHour_20 2 rfl ?_
  refine V_get (ci := 1) C okX_3_0 uX1 rfl 2 (Nat.le_of_ble_eq_true rfl) rfl rfl f124 dX2_passHour_21 ?_
  refine V_iconst (v := 0) C dX2_passHour_24 ci_0 ?_
  refine V_iald C okX_15_0 0 rfl rfl ix_0 vpc_0_10 dX2_passHour_25 ?_
  refine V_iadd C dX2_passHour_26 ?_
  refine V_iast C (ok12 hj0) 0 rfl (fun _ => rfl) ix_0 vpc_0_7 dX2_passHour_27 (fun τ3 hτ3 => ?_)
  replace hJ := hJ τ3 hτ3
  refine V_aload_n C dX2_passHour_28 1 rfl ?_
  refine V_get (ci := 2) C (ok7 hj0) uX2 rfl 4 (Nat.le_of_ble_eq_true rfl) rfl rfl f30 dX2_passHour_29 ?_
  refine V_iconst (v := 1) C dX2_passHour_32 ci_1 ?_
  refine V_dup2 C dX2_passHour_33 rfl rfl ?_
  refine V_iald C (ok12 hj0) 0 rfl rfl ix_1 vpc_1_7 dX2_passHour_34 ?_
  refine V_aload_n C dX2_passHour_35 1 rfl ?_
  refine V_cVi (st := [.int (τ3 (12, j0, 0) 1), .int 1, .ref (ad (12, j0, 0))]) (ci := 2) C (ok7 hj0) ⟨Nat.zero_le _, Nat.zero_le _⟩ (M_X2_supplyNow l D tc ad A j0 hj0 hJ) (cwV 0 C.1.2.2.2.2 gX2_passHour_X2_supplyNow rfl rfl rfl (by decide +kernel) ⟨Nat.le_of_ble_eq_true rfl, Nat.le_of_ble_eq_true rfl⟩) rfl rfl rfl rfl (Nat.le_of_ble_eq_true rfl) dX2_passHour_36 (fun r4 τ4 hJ => ?_)
  refine V_aload_n C dX2_passHour_39 2 rfl ?_
  refine V_get (ci := 1) C okX_3_0 uX1 rfl 2 (Nat.le_of_ble_eq_true rfl) rfl rfl f124 dX2_passHour_40 ?_
  refine V_iconst (v := 0) C dX2_passHour_43 ci_0 ?_
  refine V_iald C okX_15_0 0 rfl rfl ix_0 vpc_0_10 dX2_passHour_44 ?_
  refine V_isub C dX2_passHour_45 ?_
  refine V_iadd C dX2_passHour_46 ?_
  refine V_iast C (ok12 hj0) 0 rfl (fun _ => rfl) ix_1 vpc_1_7 dX2_passHour_47 (fun τ5 hτ5 => ?_)
  replace hJ := hJ τ5 hτ5
  refine V_iconst (v := 0) C dX2_passHour_48 ci_0 ?_
  refine V_istore_n (lv' := [(3, .int 0), (2, .int x2_2), (0, .ref (ad (7, j0, 0))), (1, .ref (ad (3, 0, 0)))]) C dX2_passHour_49 (by decide) rfl ?_
  refine V_sub (lv' := [(0, .ref (ad (7, j0, 0))), (1, .ref (ad (3, 0, 0))), (2, .int x2_2), (3, .int 0)]) [2, 3, 1, 0] rfl ?_
  obtain ⟨I50, μ50, hI50, hst50⟩ := hJ
  have L50 : ∀ (n : Nat) (x3_6 : Int32) (τ6 : Mem), μ50 x3_6 τ6 < n → I50 x3_6 τ6 → VV p l e (headSpec wsX2_passHour ({ frames := 4, cells := 0, slots := 0, locals := 93 })).room s m ([.ref (ad (7, j0, 0)), .ref (ad (3, 0, 0))] : List Value).toArray below meth c D vwCl idsX ad (ceX tc ad) A (MQ below (va_Qi (fun (r : Int32) (u : Mem) => Qr r u) (WdO D vwCl idsX ad (ceX tc ad) A) A) ([.ref (ad (7, j0, 0)), .ref (ad (3, 0, 0))] : List Value).toArray s 0 0 A) 4 (0, 0) 50 [(0, .ref (ad (7, j0, 0))), (1, .ref (ad (3, 0, 0))), (2, .int x2_2), (3, .int x3_6)] [] τ6 := by
    intro n
    induction n with
    | zero => intro x3_6 τ6 hμ _; exact absurd hμ (Nat.not_lt_zero _)
    | succ n ihn =>
      intro x3_6 τ6 hμ50 hJ
      have ih50 := ihn
      replace hJ := hst50 x3_6 τ6 hJ
      refine V_iload_n C dX2_passHour_50 3 rfl ?_
      refine V_aload_n C dX2_passHour_51 0 rfl ?_
      refine V_get (ci := 2) C (ok7 hj0) uX2 rfl 5 (Nat.le_of_ble_eq_true rfl) rfl rfl f49 dX2_passHour_52 ?_
      obtain ⟨hJt, hJf⟩ := hJ
      refine V_icmp_ge C (tgt := 78) dX2_passHour_55 rfl (fun hc7 => ?_) (fun hc7 => ?_)
      · have hJ := hJt hc7; clear hJt hJf
        refine V_iconst (v := 0) C dX2_passHour_78 ci_0 ?_
        refine V_istore_n (lv' := [(3, .int 0), (0, .ref (ad (7, j0, 0))), (1, .ref (ad (3, 0, 0))), (2, .int x2_2)]) C dX2_passHour_79 (by decide) rfl ?_
        refine V_sub (lv' := [(0, .ref (ad (7, j0, 0))), (1, .ref (ad (3, 0, 0))), (2, .int x2_2), (3, .int 0)]) [1, 2, 3, 0] rfl ?_
        obtain ⟨I80, μ80, hI80, hst80⟩ := hJ
        have L80 : ∀ (n : Nat) (x3_8 : Int32) (τ8 : Mem), μ80 x3_8 τ8 < n → I80 x3_8 τ8 → VV p l e (headSpec wsX2_passHour ({ frames := 4, cells := 0, slots := 0, locals := 93 })).room s m ([.ref (ad (7, j0, 0)), .ref (ad (3, 0, 0))] : List Value).toArray below meth c D vwCl idsX ad (ceX tc ad) A (MQ below (va_Qi (fun (r : Int32) (u : Mem) => Qr r u) (WdO D vwCl idsX ad (ceX tc ad) A) A) ([.ref (ad (7, j0, 0)), .ref (ad (3, 0, 0))] : List Value).toArray s 0 0 A) 4 (0, 0) 80 [(0, .ref (ad (7, j0, 0))), (1, .ref (ad (3, 0, 0))), (2, .int x2_2), (3, .int x3_8)] [] τ8 := by
          intro n
          induction n with
          | zero => intro x3_8 τ8 hμ _; exact absurd hμ (Nat.not_lt_zero _)
          | succ n ihn =>
            intro x3_8 τ8 hμ80 hJ
            have ih80 := ihn
            replace hJ := hst80 x3_8 τ8 hJ
            refine V_iload_n C dX2_passHour_80 3 rfl ?_
            refine V_aload_n C dX2_passHour_81 0 rfl ?_
            refine V_get (ci := 2) C (ok7 hj0) uX2 rfl 6 (Nat.le_of_ble_eq_true rfl) rfl rfl f64 dX2_passHour_82 ?_
            obtain ⟨hJt, hJf⟩ := hJ
            refine V_icmp_ge C (tgt := 110) dX2_passHour_85 rfl (fun hc9 => ?_) (fun hc9 => ?_)
            · have hJ := hJt hc9; clear hJt hJf
              refine V_aload_n C dX2_passHour_110 0 rfl ?_
              refine V_dup C dX2_passHour_111 rfl ?_
              refine V_get (ci := 2) C (ok7 hj0) uX2 rfl 9 (Nat.le_of_ble_eq_true rfl) rfl rfl f71 dX2_passHour_112 ?_
              refine V_iconst (v := 1) C dX2_passHour_115 ci_1 ?_
              refine V_iadd C dX2_passHour_116 ?_
              refine V_put (ci := 2) C (ok7 hj0) uX2 tyX2 tyX2_ok nmX2 rfl 9 (Nat.le_of_ble_eq_true rfl) rfl rfl f71 rfl (ty := .int) (by decide +kernel) rfl rfl (Nat.le_of_ble_eq_true rfl) dX2_passHour_117 (fun τ10 hτ10 => ?_)
              replace hJ := hJ τ10 hτ10
              refine V_aload_n C dX2_passHour_120 0 rfl ?_
              refine V_get (ci := 2) C (ok7 hj0) uX2 rfl 4 (Nat.le_of_ble_eq_true rfl) rfl rfl f30 dX2_passHour_121 ?_
              refine V_bipush (v := 6) C dX2_passHour_124 cb_6 ?_
              refine V_iald C (ok12 hj0) 0 rfl rfl ix_6 vpc_6_7 dX2_passHour_126 ?_
              refine V_iload_n C dX2_passHour_127 2 rfl ?_
              refine V_isub C dX2_passHour_128 ?_
              exact V_iret C hr hlocks dX2_passHour_129 hJ
            · have hJ := hJf hc9; clear hJt hJf
              refine V_aload_n C dX2_passHour_88 0 rfl ?_
              refine V_aload_n C dX2_passHour_89 0 rfl ?_
              refine V_get (ci := 2) C (ok7 hj0) uX2 rfl 1 (Nat.le_of_ble_eq_true rfl) rfl rfl f19 dX2_passHour_90 ?_
              refine V_iload_n C dX2_passHour_93 3 rfl ?_
              obtain ⟨hv11, hJ⟩ := hJ
              refine V_aald (o' := (14, j0, x3_8.toNatClampNeg)) C (ok9 hj0) 4 rfl rfl hv11 rfl dX2_passHour_94 ?_
              refine V_aload_n C dX2_passHour_95 1 rfl ?_
              refine V_get (ci := 1) C okX_3_0 uX1 rfl 1 (Nat.le_of_ble_eq_true rfl) rfl rfl f133 dX2_passHour_96 ?_
              refine V_iload_n C dX2_passHour_99 3 rfl ?_
              obtain ⟨hv12, hJ⟩ := hJ
              refine V_iald C okX_4_1 0 rfl rfl rfl hv12 dX2_passHour_100 ?_
              refine V_cVv (st := []) (ci := 2) C (ok7 hj0) ⟨Nat.zero_le _, Nat.zero_le _⟩ (M_X2_useWater l D tc ad A j0 hj0 j0 x3_8.toNatClampNeg hj0 (vp_lt hv11) (τ8 (4, 1, 0) x3_8.toNatClampNeg) hJ) (cwV 2 C.1.2.2.2.2 gX2_passHour_X2_useWater rfl rfl rfl (by decide +kernel) ⟨Nat.le_of_ble_eq_true rfl, Nat.le_of_ble_eq_true rfl⟩) rfl rfl rfl rfl (Nat.le_of_ble_eq_true rfl) dX2_passHour_101 (fun τ13 hJ => ?_)
              obtain ⟨x3_14, hx3_14⟩ : ∃ y : Int32, y = x3_8 + 1 := ⟨_, rfl⟩
              replace hJ := hJ x3_14 hx3_14
              refine V_iinc (v := x3_14) (lv' := [(3, .int x3_14), (0, .ref (ad (7, j0, 0))), (1, .ref (ad (3, 0, 0))), (2, .int x2_2)]) C dX2_passHour_104 3 rfl (by rw [hx3_14]; exact congrArg _ ci_1) (by decide) rfl ?_
              refine V_goto C (tgt := 80) dX2_passHour_107 rfl ?_
              refine V_sub (lv' := [(0, .ref (ad (7, j0, 0))), (1, .ref (ad (3, 0, 0))), (2, .int x2_2), (3, .int x3_14)]) [1, 2, 3, 0] rfl ?_
              exact ih80 x3_14 τ13 (Nat.lt_of_lt_of_le hJ.2 (Nat.le_of_lt_succ hμ80)) hJ.1
        exact L80 _ 0 τ6 (Nat.lt_succ_self _) hI80
      · have hJ := hJf hc7; clear hJt hJf
        refine V_aload_n C dX2_passHour_58 0 rfl ?_
        refine V_get (ci := 2) C (ok7 hj0) uX2 rfl 4 (Nat.le_of_ble_eq_true rfl) rfl rfl f30 dX2_passHour_59 ?_
        refine V_iconst (v := 2) C dX2_passHour_62 ci_2 ?_
        refine V_dup2 C dX2_passHour_63 rfl rfl ?_
        refine V_iald C (ok12 hj0) 0 rfl rfl ix_2 vpc_2_7 dX2_passHour_64 ?_
        refine V_aload_n C dX2_passHour_65 1 rfl ?_
        refine V_iload_n C dX2_passHour_66 3 rfl ?_
        refine V_cVi (st := [.int (τ6 (12, j0, 0) 2), .int 2, .ref (ad (12, j0, 0))]) (ci := 1) C okX_3_0 ⟨Nat.zero_le _, Nat.zero_le _⟩ (M_X1_lostIn l D tc ad A x3_6 hJ) (cwV 1 C.1.2.2.2.2 gX2_passHour_X1_lostIn rfl rfl rfl (by decide +kernel) ⟨Nat.le_of_ble_eq_true rfl, Nat.le_of_ble_eq_true rfl⟩) rfl rfl rfl rfl (Nat.le_of_ble_eq_true rfl) dX2_passHour_67 (fun r15 τ15 hJ => ?_)
        refine V_iadd C dX2_passHour_70 ?_
        refine V_iast C (ok12 hj0) 0 rfl (fun _ => rfl) ix_2 vpc_2_7 dX2_passHour_71 (fun τ16 hτ16 => ?_)
        replace hJ := hJ τ16 hτ16
        obtain ⟨x3_17, hx3_17⟩ : ∃ y : Int32, y = x3_6 + 1 := ⟨_, rfl⟩
        replace hJ := hJ x3_17 hx3_17
        refine V_iinc (v := x3_17) (lv' := [(3, .int x3_17), (0, .ref (ad (7, j0, 0))), (1, .ref (ad (3, 0, 0))), (2, .int x2_2)]) C dX2_passHour_72 3 rfl (by rw [hx3_17]; exact congrArg _ ci_1) (by decide) rfl ?_
        refine V_goto C (tgt := 50) dX2_passHour_75 rfl ?_
        refine V_sub (lv' := [(0, .ref (ad (7, j0, 0))), (1, .ref (ad (3, 0, 0))), (2, .int x2_2), (3, .int x3_17)]) [1, 2, 3, 0] rfl ?_
        exact ih50 x3_17 τ16 (Nat.lt_of_lt_of_le hJ.2 (Nat.le_of_lt_succ hμ50)) hJ.1
  exact L50 _ 0 τ5 (Nat.lt_succ_self _) hI50
set_option maxHeartbeats 4000000 in
set_option maxRecDepth 100000 in
theorem M_X5_advance (l : Launch) (D : va_G) (tc : Nat → ClassId) (ad : Oid → Nat) (A : Nat → Prop) (x1 : Int32) {σ : Mem} {Qr : Int32 → Mem → Prop} (hJ : J_X5_advance x1 σ Qr) : Met l yX5_advance wsX5_advance ({ frames := 5, cells := 0, slots := 0, locals := 116 }) (va_Pc [.ref (ad (0, 0, 0)), .int x1] (WdI D vwCl (tysX tc) idsX ad (ceX tc ad) A σ)) (va_Qi (fun (r : Int32) (u : Mem) => Qr r u) (WdO D vwCl idsX ad (ceX tc ad) A) A) 0 0 A := by
  refine V_meti (cc := cX5_advance) (nL := 4) (ret := (some .int)) (own := RX5) rfl (plainFor_of_name (by decide)) rfl rfl (Nat.le_of_ble_eq_true rfl) ?_
  intro p e s m below meth c C hr hlocks
  refine V_sub (lv' := [(0, .ref (ad (0, 0, 0))), (1, .int x1)]) [0, 1] rfl ?_
  have f10 : Cond.fieldLink RX5 10 (TX5 0).1 (TX5 0).2.1 (TX5 0).2.2.1 ∈ wsX5_advance := List.mem_of_getElem? (i := 1) rfl
  have uX5 : ∀ w ∈ u_ws RX5 TX5 6, w ∈ wsX5_advance := by decide +kernel
  have f30 : Cond.fieldLink RX5 30 (TX5 4).1 (TX5 4).2.1 (TX5 4).2.2.1 ∈ wsX5_advance := List.mem_of_getElem? (i := 2) rfl
  unfold J_X5_advance at hJ
  refine V_iload_n C dX5_advance_0 1 rfl ?_
  refine V_iconst (v := 1) C dX5_advance_1 ci_1 ?_
  refine V_bipush (v := 48) C dX5_advance_2 cb_48 ?_
  refine V_cSi (st := []) C ⟨Nat.zero_le _, Nat.zero_le _⟩ (M_X5_isWithin l D tc ad A x1 1 48 hJ) (va_cwS 3 C.1.2.2.2.2 gX5_advance_X5_isWithin rfl rfl rfl (by decide +kernel) ⟨Nat.le_of_ble_eq_true rfl, Nat.le_of_ble_eq_true rfl⟩) rfl rfl (Nat.le_of_ble_eq_true rfl) dX5_advance_4 (fun r1 τ1 hJ => ?_)
  obtain ⟨hJt, hJf⟩ := hJ
  refine V_if_ne C (tgt := 13) dX5_advance_7 rfl (fun hc2 => ?_) (fun hc2 => ?_)
  · have hJ := hJt hc2; clear hJt hJf
    refine V_iconst (v := 0) C dX5_advance_13 ci_0 ?_
    refine V_istore_n (lv' := [(2, .int 0), (0, .ref (ad (0, 0, 0))), (1, .int x1)]) C dX5_advance_14 (by decide) rfl ?_
    refine V_iconst (v := 0) C dX5_advance_15 ci_0 ?_
    refine V_istore_n (lv' := [(3, .int 0), (2, .int 0), (0, .ref (ad (0, 0, 0))), (1, .int x1)]) C dX5_advance_16 (by decide) rfl ?_
    refine V_sub (lv' := [(0, .ref (ad (0, 0, 0))), (1, .int x1), (2, .int 0), (3, .int 0)]) [2, 3, 1, 0] rfl ?_
    obtain ⟨I17, μ17, hI17, hst17⟩ := hJ
    have L17 : ∀ (n : Nat) (x2_3 : Int32) (x3_3 : Int32) (τ3 : Mem), μ17 x2_3 x3_3 τ3 < n → I17 x2_3 x3_3 τ3 → VV p l e (headSpec wsX5_advance ({ frames := 5, cells := 0, slots := 0, locals := 116 })).room s m ([.ref (ad (0, 0, 0)), .int x1] : List Value).toArray below meth c D vwCl idsX ad (ceX tc ad) A (MQ below (va_Qi (fun (r : Int32) (u : Mem) => Qr r u) (WdO D vwCl idsX ad (ceX tc ad) A) A) ([.ref (ad (0, 0, 0)), .int x1] : List Value).toArray s 0 0 A) 4 (0, 0) 17 [(0, .ref (ad (0, 0, 0))), (1, .int x1), (2, .int x2_3), (3, .int x3_3)] [] τ3 := by
      intro n
      induction n with
      | zero => intro x2_3 x3_3 τ3 hμ _; exact absurd hμ (Nat.not_lt_zero _)
      | succ n ihn =>
        intro x2_3 x3_3 τ3 hμ17 hJ
        have ih17 := ihn
        replace hJ := hst17 x2_3 x3_3 τ3 hJ
        refine V_iload_n C dX5_advance_17 3 rfl ?_
        refine V_iload_n C dX5_advance_18 1 rfl ?_
        obtain ⟨hJt, hJf⟩ := hJ
        refine V_icmp_ge C (tgt := 42) dX5_advance_19 rfl (fun hc4 => ?_) (fun hc4 => ?_)
        · have hJ := hJt hc4; clear hJt hJf
          refine V_iload_n C dX5_advance_42 2 rfl ?_
          exact V_iret C hr hlocks dX5_advance_43 hJ
        · have hJ := hJf hc4; clear hJt hJf
          refine V_iload_n C dX5_advance_22 2 rfl ?_
          refine V_aload_n C dX5_advance_23 0 rfl ?_
          refine V_get (ci := 5) C okX_0_0 uX5 rfl 0 (Nat.le_of_ble_eq_true rfl) rfl rfl f10 dX5_advance_24 ?_
          refine V_aload_n C dX5_advance_27 0 rfl ?_
          refine V_get (ci := 5) C okX_0_0 uX5 rfl 4 (Nat.le_of_ble_eq_true rfl) rfl rfl f30 dX5_advance_28 ?_
          refine V_cVi (st := [.int x2_3]) (ci := 2) C (ok7 (by decide)) ⟨Nat.zero_le _, Nat.zero_le _⟩ (M_X2_passHour l D tc ad A 0 (by decide) hJ) (cwV 1 C.1.2.2.2.2 gX5_advance_X2_passHour rfl rfl rfl (by decide +kernel) ⟨Nat.le_of_ble_eq_true rfl, Nat.le_of_ble_eq_true rfl⟩) rfl rfl rfl rfl (Nat.le_of_ble_eq_true rfl) dX5_advance_31 (fun r5 τ5 hJ => ?_)
          refine V_iadd C dX5_advance_34 ?_
          refine V_topi (fun x2_6 hx2_6 => ?_)
          replace hJ := hJ x2_6 hx2_6
          refine V_istore_n (lv' := [(2, .int x2_6), (0, .ref (ad (0, 0, 0))), (1, .int x1), (3, .int x3_3)]) C dX5_advance_35 (by decide) rfl ?_
          obtain ⟨x3_7, hx3_7⟩ : ∃ y : Int32, y = x3_3 + 1 := ⟨_, rfl⟩
          replace hJ := hJ x3_7 hx3_7
          refine V_iinc (v := x3_7) (lv' := [(3, .int x3_7), (2, .int x2_6), (0, .ref (ad (0, 0, 0))), (1, .int x1)]) C dX5_advance_36 3 rfl (by rw [hx3_7]; exact congrArg _ ci_1) (by decide) rfl ?_
          refine V_goto C (tgt := 17) dX5_advance_39 rfl ?_
          refine V_sub (lv' := [(0, .ref (ad (0, 0, 0))), (1, .int x1), (2, .int x2_6), (3, .int x3_7)]) [2, 3, 1, 0] rfl ?_
          exact ih17 x2_6 x3_7 τ5 (Nat.lt_of_lt_of_le hJ.2 (Nat.le_of_lt_succ hμ17)) hJ.1
    exact L17 _ 0 0 τ1 (Nat.lt_succ_self _) hI17
  · have hJ := hJf hc2; clear hJt hJf
    refine V_bipush (v := (-102)) C dX5_advance_10 cb_m102 ?_
    exact V_iret C hr hlocks dX5_advance_12 hJ
set_option maxHeartbeats 4000000 in
set_option maxRecDepth 100000 in
theorem M_X5_willMiss (l : Launch) (D : va_G) (tc : Nat → ClassId) (ad : Oid → Nat) (A : Nat → Prop) (x1 : Int32) (x2 : Int32) {σ : Mem} {Qr : Int32 → Mem → Prop} (hJ : J_X5_willMiss x1 x2 σ Qr) : Met l yX5_willMiss wsX5_willMiss ({ frames := 5, cells := 0, slots := 0, locals := 116 }) (va_Pc [.ref (ad (0, 0, 0)), .int x1, .int x2] (WdI D vwCl (tysX tc) idsX ad (ceX tc ad) A σ)) (va_Qi (fun (r : Int32) (u : Mem) => Qr r u) (WdO D vwCl idsX ad (ceX tc ad) A) A) 0 0 A := by
  refine V_meti (cc := cX5_willMiss) (nL := 4) (ret := (some .int)) (own := RX5) rfl (plainFor_of_name (by decide)) rfl rfl (Nat.le_of_ble_eq_true rfl) ?_
  intro p e s m below meth c C hr hlocks
  refine V_sub (lv' := [(0, .ref (ad (0, 0, 0))), (1, .int x1), (2, .int x2)]) [0, 1, 2] rfl ?_
  have f10 : Cond.fieldLink RX5 10 (TX5 0).1 (TX5 0).2.1 (TX5 0).2.2.1 ∈ wsX5_willMiss := List.mem_of_getElem? (i := 1) rfl
  have uX5 : ∀ w ∈ u_ws RX5 TX5 6, w ∈ wsX5_willMiss := by decide +kernel
  have f16 : Cond.fieldLink RX5 16 (TX5 1).1 (TX5 1).2.1 (TX5 1).2.2.1 ∈ wsX5_willMiss := List.mem_of_getElem? (i := 2) rfl
  have f92 : Cond.fieldLink RX5 92 (TX2 1).1 (TX2 1).2.1 (TX2 1).2.2.1 ∈ wsX5_willMiss := List.mem_of_getElem? (i := 4) rfl
  have uX2 : ∀ w ∈ u_ws RX2 TX2 10, w ∈ wsX5_willMiss := by decide +kernel
  have f188 : Cond.fieldLink RX5 188 (TX4 10).1 (TX4 10).2.1 (TX4 10).2.2.1 ∈ wsX5_willMiss := List.mem_of_getElem? (i := 5) rfl
  have uX4 : ∀ w ∈ u_ws RX4 TX4 12, w ∈ wsX5_willMiss := by decide +kernel
  have f30 : Cond.fieldLink RX5 30 (TX5 4).1 (TX5 4).2.1 (TX5 4).2.2.1 ∈ wsX5_willMiss := List.mem_of_getElem? (i := 3) rfl
  unfold J_X5_willMiss at hJ
  refine V_aload_n C dX5_willMiss_0 0 rfl ?_
  refine V_get (ci := 5) C okX_0_0 uX5 rfl 0 (Nat.le_of_ble_eq_true rfl) rfl rfl f10 dX5_willMiss_1 ?_
  refine V_iload_n C dX5_willMiss_4 1 rfl ?_
  refine V_cVi (st := []) (ci := 2) C (ok7 (by decide)) ⟨Nat.zero_le _, Nat.zero_le _⟩ (M_X2_hasUser l D tc ad A 0 (by decide) x1 hJ) (cwV 1 C.1.2.2.2.2 gX5_willMiss_X2_hasUser rfl rfl rfl (by decide +kernel) ⟨Nat.le_of_ble_eq_true rfl, Nat.le_of_ble_eq_true rfl⟩) rfl rfl rfl rfl (Nat.le_of_ble_eq_true rfl) dX5_willMiss_5 (fun r1 τ1 hJ => ?_)
  obtain ⟨hJt, hJf⟩ := hJ
  refine V_if_ne C (tgt := 14) dX5_willMiss_8 rfl (fun hc2 => ?_) (fun hc2 => ?_)
  · have hJ := hJt hc2; clear hJt hJf
    refine V_iload_n C dX5_willMiss_14 2 rfl ?_
    refine V_iconst (v := 1) C dX5_willMiss_15 ci_1 ?_
    refine V_bipush (v := 48) C dX5_willMiss_16 cb_48 ?_
    refine V_cSi (st := []) C ⟨Nat.zero_le _, Nat.zero_le _⟩ (M_X5_isWithin l D tc ad A x2 1 48 hJ) (va_cwS 3 C.1.2.2.2.2 gX5_willMiss_X5_isWithin rfl rfl rfl (by decide +kernel) ⟨Nat.le_of_ble_eq_true rfl, Nat.le_of_ble_eq_true rfl⟩) rfl rfl (Nat.le_of_ble_eq_true rfl) dX5_willMiss_18 (fun r3 τ3 hJ => ?_)
    obtain ⟨hJt, hJf⟩ := hJ
    refine V_if_ne C (tgt := 27) dX5_willMiss_21 rfl (fun hc4 => ?_) (fun hc4 => ?_)
    · have hJ := hJt hc4; clear hJt hJf
      refine V_aload_n C dX5_willMiss_27 0 rfl ?_
      refine V_get (ci := 5) C okX_0_0 uX5 rfl 1 (Nat.le_of_ble_eq_true rfl) rfl rfl f16 dX5_willMiss_28 ?_
      refine V_aload_n C dX5_willMiss_31 0 rfl ?_
      refine V_get (ci := 5) C okX_0_0 uX5 rfl 0 (Nat.le_of_ble_eq_true rfl) rfl rfl f10 dX5_willMiss_32 ?_
      refine V_cVv (st := []) (ci := 2) C (ok7 (by decide)) ⟨Nat.zero_le _, Nat.zero_le _⟩ (M_X2_copyFrom l D tc ad A 1 (by decide) 0 (by decide) hJ) (cwV 1 C.1.2.2.2.2 gX5_willMiss_X2_copyFrom rfl rfl rfl (by decide +kernel) ⟨Nat.le_of_ble_eq_true rfl, Nat.le_of_ble_eq_true rfl⟩) rfl rfl rfl rfl (Nat.le_of_ble_eq_true rfl) dX5_willMiss_35 (fun τ5 hJ => ?_)
      refine V_iconst (v := 0) C dX5_willMiss_38 ci_0 ?_
      refine V_istore_n (lv' := [(3, .int 0), (0, .ref (ad (0, 0, 0))), (1, .int x1), (2, .int x2)]) C dX5_willMiss_39 (by decide) rfl ?_
      refine V_sub (lv' := [(0, .ref (ad (0, 0, 0))), (1, .int x1), (2, .int x2), (3, .int 0)]) [1, 2, 3, 0] rfl ?_
      obtain ⟨I40, μ40, hI40, hst40⟩ := hJ
      have L40 : ∀ (n : Nat) (x3_6 : Int32) (τ6 : Mem), μ40 x3_6 τ6 < n → I40 x3_6 τ6 → VV p l e (headSpec wsX5_willMiss ({ frames := 5, cells := 0, slots := 0, locals := 116 })).room s m ([.ref (ad (0, 0, 0)), .int x1, .int x2] : List Value).toArray below meth c D vwCl idsX ad (ceX tc ad) A (MQ below (va_Qi (fun (r : Int32) (u : Mem) => Qr r u) (WdO D vwCl idsX ad (ceX tc ad) A) A) ([.ref (ad (0, 0, 0)), .int x1, .int x2] : List Value).toArray s 0 0 A) 4 (0, 0) 40 [(0, .ref (ad (0, 0, 0))), (1, .int x1), (2, .int x2), (3, .int x3_6)] [] τ6 := by
        intro n
        induction n with
        | zero => intro x3_6 τ6 hμ _; exact absurd hμ (Nat.not_lt_zero _)
        | succ n ihn =>
          intro x3_6 τ6 hμ40 hJ
          have ih40 := ihn
          replace hJ := hst40 x3_6 τ6 hJ
          refine V_iload_n C dX5_willMiss_40 3 rfl ?_
          refine V_iload_n C dX5_willMiss_41 2 rfl ?_
          obtain ⟨hJt, hJf⟩ := hJ
          refine V_icmp_ge C (tgt := 63) dX5_willMiss_42 rfl (fun hc7 => ?_) (fun hc7 => ?_)
          · have hJ := hJt hc7; clear hJt hJf
            refine V_aload_n C dX5_willMiss_63 0 rfl ?_
            refine V_get (ci := 5) C okX_0_0 uX5 rfl 1 (Nat.le_of_ble_eq_true rfl) rfl rfl f16 dX5_willMiss_64 ?_
            refine V_get (ci := 2) C (ok7 (by decide)) uX2 rfl 1 (Nat.le_of_ble_eq_true rfl) rfl rfl f92 dX5_willMiss_67 ?_
            refine V_iload_n C dX5_willMiss_70 1 rfl ?_
            obtain ⟨hv8, hJ⟩ := hJ
            refine V_aald (o' := (14, 1, x1.toNatClampNeg)) C (ok9 (by decide)) 4 rfl rfl hv8 rfl dX5_willMiss_71 ?_
            refine V_get (ci := 4) C (ok14 (by decide) (vp_lt hv8)) uX4 rfl 10 (Nat.le_of_ble_eq_true rfl) rfl rfl f188 dX5_willMiss_72 ?_
            refine V_aload_n C dX5_willMiss_75 0 rfl ?_
            refine V_get (ci := 5) C okX_0_0 uX5 rfl 0 (Nat.le_of_ble_eq_true rfl) rfl rfl f10 dX5_willMiss_76 ?_
            refine V_get (ci := 2) C (ok7 (by decide)) uX2 rfl 1 (Nat.le_of_ble_eq_true rfl) rfl rfl f92 dX5_willMiss_79 ?_
            refine V_iload_n C dX5_willMiss_82 1 rfl ?_
            obtain ⟨hv9, hJ⟩ := hJ
            refine V_aald (o' := (14, 0, x1.toNatClampNeg)) C (ok9 (by decide)) 4 rfl rfl hv9 rfl dX5_willMiss_83 ?_
            refine V_get (ci := 4) C (ok14 (by decide) (vp_lt hv9)) uX4 rfl 10 (Nat.le_of_ble_eq_true rfl) rfl rfl f188 dX5_willMiss_84 ?_
            refine V_isub C dX5_willMiss_87 ?_
            exact V_iret C hr hlocks dX5_willMiss_88 hJ
          · have hJ := hJf hc7; clear hJt hJf
            refine V_aload_n C dX5_willMiss_45 0 rfl ?_
            refine V_get (ci := 5) C okX_0_0 uX5 rfl 1 (Nat.le_of_ble_eq_true rfl) rfl rfl f16 dX5_willMiss_46 ?_
            refine V_aload_n C dX5_willMiss_49 0 rfl ?_
            refine V_get (ci := 5) C okX_0_0 uX5 rfl 4 (Nat.le_of_ble_eq_true rfl) rfl rfl f30 dX5_willMiss_50 ?_
            refine V_cVi (st := []) (ci := 2) C (ok7 (by decide)) ⟨Nat.zero_le _, Nat.zero_le _⟩ (M_X2_passHour l D tc ad A 1 (by decide) hJ) (cwV 1 C.1.2.2.2.2 gX5_willMiss_X2_passHour rfl rfl rfl (by decide +kernel) ⟨Nat.le_of_ble_eq_true rfl, Nat.le_of_ble_eq_true rfl⟩) rfl rfl rfl rfl (Nat.le_of_ble_eq_true rfl) dX5_willMiss_53 (fun r10 τ10 hJ => ?_)
            refine V_pop C dX5_willMiss_56 rfl ?_
            obtain ⟨x3_11, hx3_11⟩ : ∃ y : Int32, y = x3_6 + 1 := ⟨_, rfl⟩
            replace hJ := hJ x3_11 hx3_11
            refine V_iinc (v := x3_11) (lv' := [(3, .int x3_11), (0, .ref (ad (0, 0, 0))), (1, .int x1), (2, .int x2)]) C dX5_willMiss_57 3 rfl (by rw [hx3_11]; exact congrArg _ ci_1) (by decide) rfl ?_
            refine V_goto C (tgt := 40) dX5_willMiss_60 rfl ?_
            refine V_sub (lv' := [(0, .ref (ad (0, 0, 0))), (1, .int x1), (2, .int x2), (3, .int x3_11)]) [1, 2, 3, 0] rfl ?_
            exact ih40 x3_11 τ10 (Nat.lt_of_lt_of_le hJ.2 (Nat.le_of_lt_succ hμ40)) hJ.1
      exact L40 _ 0 τ5 (Nat.lt_succ_self _) hI40
    · have hJ := hJf hc4; clear hJt hJf
      refine V_bipush (v := (-102)) C dX5_willMiss_24 cb_m102 ?_
      exact V_iret C hr hlocks dX5_willMiss_26 hJ
  · have hJ := hJf hc2; clear hJt hJf
    refine V_bipush (v := (-101)) C dX5_willMiss_11 cb_m101 ?_
    exact V_iret C hr hlocks dX5_willMiss_13 hJ
set_option maxHeartbeats 4000000 in
set_option maxRecDepth 100000 in
theorem M_X3_isFull (l : Launch) (D : va_G) (tc : Nat → ClassId) (ad : Oid → Nat) (A : Nat → Prop) {σ : Mem} {Qr : Int32 → Mem → Prop} (hJ : J_X3_isFull σ Qr) : Met l yX3_isFull wsX3_isFull ({ frames := 0, cells := 0, slots := 0, locals := 0 }) (va_Pc [.ref (ad (5, 0, 0))] (WdI D vwCl (tysX tc) idsX ad (ceX tc ad) A σ)) (va_Qi (fun (r : Int32) (u : Mem) => Qr r u) (WdO D vwCl idsX ad (ceX tc ad) A) A) 0 0 A := by
  refine V_meti (cc := cX3_isFull) (nL := 1) (ret := (some .boolean)) (own := RX3) rfl (plainFor_of_name (by decide)) rfl rfl (Nat.le_of_ble_eq_true rfl) ?_
  intro p e s m below meth c C hr hlocks
  refine V_sub (lv' := [(0, .ref (ad (5, 0, 0)))]) [0] rfl ?_
  have f19 : Cond.fieldLink RX3 19 (TX3 0).1 (TX3 0).2.1 (TX3 0).2.2.1 ∈ wsX3_isFull := List.mem_of_getElem? (i := 1) rfl
  have uX3 : ∀ w ∈ u_ws RX3 TX3 5, w ∈ wsX3_isFull := by decide +kernel
  unfold J_X3_isFull at hJ
  refine V_aload_n C dX3_isFull_0 0 rfl ?_
  refine V_get (ci := 3) C okX_5_0 uX3 rfl 0 (Nat.le_of_ble_eq_true rfl) rfl rfl f19 dX3_isFull_1 ?_
  refine V_bipush (v := 100) C dX3_isFull_4 cb_100 ?_
  obtain ⟨hJt, hJf⟩ := hJ
  refine V_icmp_lt C (tgt := 13) dX3_isFull_6 rfl (fun hc1 => ?_) (fun hc1 => ?_)
  · have hJ := hJt hc1; clear hJt hJf
    refine V_iconst (v := 0) C dX3_isFull_13 ci_0 ?_
    exact V_zret C hr hlocks (Or.inl rfl) dX3_isFull_14 hJ
  · have hJ := hJf hc1; clear hJt hJf
    refine V_iconst (v := 1) C dX3_isFull_9 ci_1 ?_
    refine V_goto C (tgt := 14) dX3_isFull_10 rfl ?_
    exact V_zret C hr hlocks (Or.inr rfl) dX3_isFull_14 hJ
set_option maxHeartbeats 4000000 in
set_option maxRecDepth 100000 in
theorem M_X3_put (l : Launch) (D : va_G) (tc : Nat → ClassId) (ad : Oid → Nat) (A : Nat → Prop) (x1 : Int32) {σ : Mem} {Qr : Mem → Prop} (hJ : J_X3_put x1 σ Qr) : Met l yX3_put wsX3_put ({ frames := 1, cells := 0, slots := 0, locals := 20 }) (va_Pc [.ref (ad (5, 0, 0)), .int x1] (WdI D vwCl (tysX tc) idsX ad (ceX tc ad) A σ)) (va_Qv (fun (u : Mem) => Qr u) (WdO D vwCl idsX ad (ceX tc ad) A) A) 0 0 A := by
  refine V_metv (cc := cX3_put) (nL := 2) (ret := none) (own := RX3) rfl (plainFor_of_name (by decide)) rfl rfl (Nat.le_of_ble_eq_true rfl) ?_
  intro p e s m below meth c C hr hlocks
  refine V_sub (lv' := [(0, .ref (ad (5, 0, 0))), (1, .int x1)]) [0, 1] rfl ?_
  have f15 : Cond.fieldLink RX3 15 (TX3 3).1 (TX3 3).2.1 (TX3 3).2.2.1 ∈ wsX3_put := List.mem_of_getElem? (i := 1) rfl
  have uX3 : ∀ w ∈ u_ws RX3 TX3 5, w ∈ wsX3_put := by decide +kernel
  have f19 : Cond.fieldLink RX3 19 (TX3 0).1 (TX3 0).2.1 (TX3 0).2.2.1 ∈ wsX3_put := List.mem_of_getElem? (i := 2) rfl
  unfold J_X3_put at hJ
  refine V_aload_n C dX3_put_0 0 rfl ?_
  refine V_cVi (st := []) (ci := 3) C okX_5_0 ⟨Nat.zero_le _, Nat.zero_le _⟩ (M_X3_isFull l D tc ad A  hJ) (cwV 0 C.1.2.2.2.2 gX3_put_X3_isFull rfl rfl rfl (by decide +kernel) ⟨Nat.le_of_ble_eq_true rfl, Nat.le_of_ble_eq_true rfl⟩) rfl rfl rfl rfl (Nat.le_of_ble_eq_true rfl) dX3_put_1 (fun r1 τ1 hJ => ?_)
  obtain ⟨hJt, hJf⟩ := hJ
  refine V_if_eq C (tgt := 8) dX3_put_4 rfl (fun hc2 => ?_) (fun hc2 => ?_)
  · have hJ := hJt hc2; clear hJt hJf
    refine V_aload_n C dX3_put_8 0 rfl ?_
    refine V_get (ci := 3) C okX_5_0 uX3 rfl 3 (Nat.le_of_ble_eq_true rfl) rfl rfl f15 dX3_put_9 ?_
    refine V_aload_n C dX3_put_12 0 rfl ?_
    refine V_get (ci := 3) C okX_5_0 uX3 rfl 0 (Nat.le_of_ble_eq_true rfl) rfl rfl f19 dX3_put_13 ?_
    refine V_iload_n C dX3_put_16 1 rfl ?_
    refine V_i2c C dX3_put_17 ?_
    obtain ⟨hv3, hJ⟩ := hJ
    refine V_cast C okX_6_0 2 rfl (fun _ => rfl) rfl hv3 dX3_put_18 (fun τ4 hτ4 => ?_)
    replace hJ := hJ τ4 hτ4
    refine V_aload_n C dX3_put_19 0 rfl ?_
    refine V_dup C dX3_put_20 rfl ?_
    refine V_get (ci := 3) C okX_5_0 uX3 rfl 0 (Nat.le_of_ble_eq_true rfl) rfl rfl f19 dX3_put_21 ?_
    refine V_iconst (v := 1) C dX3_put_24 ci_1 ?_
    refine V_iadd C dX3_put_25 ?_
    refine V_put (ci := 3) C okX_5_0 uX3 tyX3 tyX3_ok nmX3 rfl 0 (Nat.le_of_ble_eq_true rfl) rfl rfl f19 rfl (ty := .int) (by decide +kernel) rfl rfl (Nat.le_of_ble_eq_true rfl) dX3_put_26 (fun τ5 hτ5 => ?_)
    replace hJ := hJ τ5 hτ5
    exact V_vret C hr hlocks dX3_put_29 hJ
  · have hJ := hJf hc2; clear hJt hJf
    exact V_vret C hr hlocks dX3_put_7 hJ
set_option maxHeartbeats 4000000 in
set_option maxRecDepth 100000 in
theorem M_X5_append (l : Launch) (D : va_G) (tc : Nat → ClassId) (ad : Oid → Nat) (A : Nat → Prop) (x1 : Int32) {σ : Mem} {Qr : Int32 → Mem → Prop} (hJ : J_X5_append x1 σ Qr) : Met l yX5_append wsX5_append ({ frames := 2, cells := 0, slots := 0, locals := 41 }) (va_Pc [.ref (ad (0, 0, 0)), .int x1] (WdI D vwCl (tysX tc) idsX ad (ceX tc ad) A σ)) (va_Qi (fun (r : Int32) (u : Mem) => Qr r u) (WdO D vwCl idsX ad (ceX tc ad) A) A) 0 0 A := by
  refine V_meti (cc := cX5_append) (nL := 2) (ret := (some .int)) (own := RX5) rfl (plainFor_of_name (by decide)) rfl rfl (Nat.le_of_ble_eq_true rfl) ?_
  intro p e s m below meth c C hr hlocks
  refine V_sub (lv' := [(0, .ref (ad (0, 0, 0))), (1, .int x1)]) [0, 1] rfl ?_
  have f37 : Cond.fieldLink RX5 37 (TX5 5).1 (TX5 5).2.1 (TX5 5).2.2.1 ∈ wsX5_append := List.mem_of_getElem? (i := 1) rfl
  have uX5 : ∀ w ∈ u_ws RX5 TX5 6, w ∈ wsX5_append := by decide +kernel
  have f214 : Cond.fieldLink RX5 214 (TX3 0).1 (TX3 0).2.1 (TX3 0).2.2.1 ∈ wsX5_append := List.mem_of_getElem? (i := 2) rfl
  have uX3 : ∀ w ∈ u_ws RX3 TX3 5, w ∈ wsX5_append := by decide +kernel
  unfold J_X5_append at hJ
  refine V_iload_n C dX5_append_0 1 rfl ?_
  refine V_iconst (v := 0) C dX5_append_1 ci_0 ?_
  refine V_bipush (v := 127) C dX5_append_2 cb_127 ?_
  refine V_cSi (st := []) C ⟨Nat.zero_le _, Nat.zero_le _⟩ (M_X5_isWithin l D tc ad A x1 0 127 hJ) (va_cwS 3 C.1.2.2.2.2 gX5_append_X5_isWithin rfl rfl rfl (by decide +kernel) ⟨Nat.le_of_ble_eq_true rfl, Nat.le_of_ble_eq_true rfl⟩) rfl rfl (Nat.le_of_ble_eq_true rfl) dX5_append_4 (fun r1 τ1 hJ => ?_)
  obtain ⟨hJt, hJf⟩ := hJ
  refine V_if_ne C (tgt := 13) dX5_append_7 rfl (fun hc2 => ?_) (fun hc2 => ?_)
  · have hJ := hJt hc2; clear hJt hJf
    refine V_aload_n C dX5_append_13 0 rfl ?_
    refine V_get (ci := 5) C okX_0_0 uX5 rfl 5 (Nat.le_of_ble_eq_true rfl) rfl rfl f37 dX5_append_14 ?_
    refine V_cVi (st := []) (ci := 3) C okX_5_0 ⟨Nat.zero_le _, Nat.zero_le _⟩ (M_X3_isFull l D tc ad A  hJ) (cwV 0 C.1.2.2.2.2 gX5_append_X3_isFull rfl rfl rfl (by decide +kernel) ⟨Nat.le_of_ble_eq_true rfl, Nat.le_of_ble_eq_true rfl⟩) rfl rfl rfl rfl (Nat.le_of_ble_eq_true rfl) dX5_append_17 (fun r3 τ3 hJ => ?_)
    obtain ⟨hJt, hJf⟩ := hJ
    refine V_if_eq C (tgt := 26) dX5_append_20 rfl (fun hc4 => ?_) (fun hc4 => ?_)
    · have hJ := hJt hc4; clear hJt hJf
      refine V_aload_n C dX5_append_26 0 rfl ?_
      refine V_get (ci := 5) C okX_0_0 uX5 rfl 5 (Nat.le_of_ble_eq_true rfl) rfl rfl f37 dX5_append_27 ?_
      refine V_iload_n C dX5_append_30 1 rfl ?_
      refine V_cVv (st := []) (ci := 3) C okX_5_0 ⟨Nat.zero_le _, Nat.zero_le _⟩ (M_X3_put l D tc ad A x1 hJ) (cwV 1 C.1.2.2.2.2 gX5_append_X3_put rfl rfl rfl (by decide +kernel) ⟨Nat.le_of_ble_eq_true rfl, Nat.le_of_ble_eq_true rfl⟩) rfl rfl rfl rfl (Nat.le_of_ble_eq_true rfl) dX5_append_31 (fun τ5 hJ => ?_)
      refine V_aload_n C dX5_append_34 0 rfl ?_
      refine V_get (ci := 5) C okX_0_0 uX5 rfl 5 (Nat.le_of_ble_eq_true rfl) rfl rfl f37 dX5_append_35 ?_
      refine V_get (ci := 3) C okX_5_0 uX3 rfl 0 (Nat.le_of_ble_eq_true rfl) rfl rfl f214 dX5_append_38 ?_
      exact V_iret C hr hlocks dX5_append_41 hJ
    · have hJ := hJf hc4; clear hJt hJf
      refine V_bipush (v := (-104)) C dX5_append_23 cb_m104 ?_
      exact V_iret C hr hlocks dX5_append_25 hJ
  · have hJ := hJf hc2; clear hJt hJf
    refine V_bipush (v := (-102)) C dX5_append_10 cb_m102 ?_
    exact V_iret C hr hlocks dX5_append_12 hJ
set_option maxHeartbeats 4000000 in
set_option maxRecDepth 100000 in
theorem M_X5_isShut (l : Launch) (D : va_G) (tc : Nat → ClassId) (ad : Oid → Nat) (A : Nat → Prop) (x1 : Int32) {σ : Mem} {Qr : Int32 → Mem → Prop} (hJ : J_X5_isShut x1 σ Qr) : Met l yX5_isShut wsX5_isShut ({ frames := 1, cells := 0, slots := 0, locals := 21 }) (va_Pc [.ref (ad (0, 0, 0)), .int x1] (WdI D vwCl (tysX tc) idsX ad (ceX tc ad) A σ)) (va_Qi (fun (r : Int32) (u : Mem) => Qr r u) (WdO D vwCl idsX ad (ceX tc ad) A) A) 0 0 A := by
  refine V_meti (cc := cX5_isShut) (nL := 2) (ret := (some .int)) (own := RX5) rfl (plainFor_of_name (by decide)) rfl rfl (Nat.le_of_ble_eq_true rfl) ?_
  intro p e s m below meth c C hr hlocks
  refine V_sub (lv' := [(0, .ref (ad (0, 0, 0))), (1, .int x1)]) [0, 1] rfl ?_
  have f10 : Cond.fieldLink RX5 10 (TX5 0).1 (TX5 0).2.1 (TX5 0).2.2.1 ∈ wsX5_isShut := List.mem_of_getElem? (i := 1) rfl
  have uX5 : ∀ w ∈ u_ws RX5 TX5 6, w ∈ wsX5_isShut := by decide +kernel
  have f92 : Cond.fieldLink RX5 92 (TX2 1).1 (TX2 1).2.1 (TX2 1).2.2.1 ∈ wsX5_isShut := List.mem_of_getElem? (i := 2) rfl
  have uX2 : ∀ w ∈ u_ws RX2 TX2 10, w ∈ wsX5_isShut := by decide +kernel
  have f203 : Cond.fieldLink RX5 203 (TX4 11).1 (TX4 11).2.1 (TX4 11).2.2.1 ∈ wsX5_isShut := List.mem_of_getElem? (i := 3) rfl
  have uX4 : ∀ w ∈ u_ws RX4 TX4 12, w ∈ wsX5_isShut := by decide +kernel
  unfold J_X5_isShut at hJ
  refine V_aload_n C dX5_isShut_0 0 rfl ?_
  refine V_get (ci := 5) C okX_0_0 uX5 rfl 0 (Nat.le_of_ble_eq_true rfl) rfl rfl f10 dX5_isShut_1 ?_
  refine V_iload_n C dX5_isShut_4 1 rfl ?_
  refine V_cVi (st := []) (ci := 2) C (ok7 (by decide)) ⟨Nat.zero_le _, Nat.zero_le _⟩ (M_X2_hasUser l D tc ad A 0 (by decide) x1 hJ) (cwV 1 C.1.2.2.2.2 gX5_isShut_X2_hasUser rfl rfl rfl (by decide +kernel) ⟨Nat.le_of_ble_eq_true rfl, Nat.le_of_ble_eq_true rfl⟩) rfl rfl rfl rfl (Nat.le_of_ble_eq_true rfl) dX5_isShut_5 (fun r1 τ1 hJ => ?_)
  obtain ⟨hJt, hJf⟩ := hJ
  refine V_if_ne C (tgt := 14) dX5_isShut_8 rfl (fun hc2 => ?_) (fun hc2 => ?_)
  · have hJ := hJt hc2; clear hJt hJf
    refine V_aload_n C dX5_isShut_14 0 rfl ?_
    refine V_get (ci := 5) C okX_0_0 uX5 rfl 0 (Nat.le_of_ble_eq_true rfl) rfl rfl f10 dX5_isShut_15 ?_
    refine V_get (ci := 2) C (ok7 (by decide)) uX2 rfl 1 (Nat.le_of_ble_eq_true rfl) rfl rfl f92 dX5_isShut_18 ?_
    refine V_iload_n C dX5_isShut_21 1 rfl ?_
    obtain ⟨hv3, hJ⟩ := hJ
    refine V_aald (o' := (14, 0, x1.toNatClampNeg)) C (ok9 (by decide)) 4 rfl rfl hv3 rfl dX5_isShut_22 ?_
    refine V_get (ci := 4) C (ok14 (by decide) (vp_lt hv3)) uX4 rfl 11 (Nat.le_of_ble_eq_true rfl) rfl rfl f203 dX5_isShut_23 ?_
    obtain ⟨hJt, hJf⟩ := hJ
    refine V_if_eq C (tgt := 33) dX5_isShut_26 rfl (fun hc4 => ?_) (fun hc4 => ?_)
    · have hJ := hJt hc4; clear hJt hJf
      refine V_iconst (v := 0) C dX5_isShut_33 ci_0 ?_
      exact V_iret C hr hlocks dX5_isShut_34 hJ
    · have hJ := hJf hc4; clear hJt hJf
      refine V_iconst (v := 1) C dX5_isShut_29 ci_1 ?_
      refine V_goto C (tgt := 34) dX5_isShut_30 rfl ?_
      exact V_iret C hr hlocks dX5_isShut_34 hJ
  · have hJ := hJf hc2; clear hJt hJf
    refine V_bipush (v := (-101)) C dX5_isShut_11 cb_m101 ?_
    exact V_iret C hr hlocks dX5_isShut_13 hJ
set_option maxHeartbeats 4000000 in
set_option maxRecDepth 100000 in
theorem M_X5_settle (l : Launch) (D : va_G) (tc : Nat → ClassId) (ad : Oid → Nat) (A : Nat → Prop) {σ : Mem} {Qr : Int32 → Mem → Prop} (hJ : J_X5_settle σ Qr) : Met l yX5_settle wsX5_settle ({ frames := 6, cells := 0, slots := 0, locals := 140 }) (va_Pc [.ref (ad (0, 0, 0))] (WdI D vwCl (tysX tc) idsX ad (ceX tc ad) A σ)) (va_Qi (fun (r : Int32) (u : Mem) => Qr r u) (WdO D vwCl idsX ad (ceX tc ad) A) A) 0 0 A := by
  refine V_meti (cc := cX5_settle) (nL := 4) (ret := (some .int)) (own := RX5) rfl (plainFor_of_name (by decide)) rfl rfl (Nat.le_of_ble_eq_true rfl) ?_
  intro p e s m below meth c C hr hlocks
  refine V_sub (lv' := [(0, .ref (ad (0, 0, 0)))]) [0] rfl ?_
  have f10 : Cond.fieldLink RX5 10 (TX5 0).1 (TX5 0).2.1 (TX5 0).2.2.1 ∈ wsX5_settle := List.mem_of_getElem? (i := 1) rfl
  have uX5 : ∀ w ∈ u_ws RX5 TX5 6, w ∈ wsX5_settle := by decide +kernel
  have f83 : Cond.fieldLink RX5 83 (TX2 6).1 (TX2 6).2.1 (TX2 6).2.2.1 ∈ wsX5_settle := List.mem_of_getElem? (i := 2) rfl
  have uX2 : ∀ w ∈ u_ws RX2 TX2 10, w ∈ wsX5_settle := by decide +kernel
  have f138 : Cond.fieldLink RX5 138 (TX2 2).1 (TX2 2).2.1 (TX2 2).2.2.1 ∈ wsX5_settle := List.mem_of_getElem? (i := 3) rfl
  have f92 : Cond.fieldLink RX5 92 (TX2 1).1 (TX2 1).2.1 (TX2 1).2.2.1 ∈ wsX5_settle := List.mem_of_getElem? (i := 4) rfl
  have f203 : Cond.fieldLink RX5 203 (TX4 11).1 (TX4 11).2.1 (TX4 11).2.2.1 ∈ wsX5_settle := List.mem_of_getElem? (i := 5) rfl
  have uX4 : ∀ w ∈ u_ws RX4 TX4 12, w ∈ wsX5_settle := by decide +kernel
  unfold J_X5_settle at hJ
  refine V_iconst (v := 0) C dX5_settle_0 ci_0 ?_
  refine V_istore_n (lv' := [(1, .int 0), (0, .ref (ad (0, 0, 0)))]) C dX5_settle_1 (by decide) rfl ?_
  refine V_iconst (v := 0) C dX5_settle_2 ci_0 ?_
  refine V_istore_n (lv' := [(2, .int 0), (1, .int 0), (0, .ref (ad (0, 0, 0)))]) C dX5_settle_3 (by decide) rfl ?_
  refine V_sub (lv' := [(0, .ref (ad (0, 0, 0))), (1, .int 0), (2, .int 0)]) [2, 1, 0] rfl ?_
  obtain ⟨I4, μ4, hI4, hst4⟩ := hJ
  have L4 : ∀ (n : Nat) (x1_1 : Int32) (x2_1 : Int32) (τ1 : Mem), μ4 x1_1 x2_1 τ1 < n → I4 x1_1 x2_1 τ1 → VV p l e (headSpec wsX5_settle ({ frames := 6, cells := 0, slots := 0, locals := 140 })).room s m ([.ref (ad (0, 0, 0))] : List Value).toArray below meth c D vwCl idsX ad (ceX tc ad) A (MQ below (va_Qi (fun (r : Int32) (u : Mem) => Qr r u) (WdO D vwCl idsX ad (ceX tc ad) A) A) ([.ref (ad (0, 0, 0))] : List Value).toArray s 0 0 A) 4 (0, 0) 4 [(0, .ref (ad (0, 0, 0))), (1, .int x1_1), (2, .int x2_1)] [] τ1 := by
    intro n
    induction n with
    | zero => intro x1_1 x2_1 τ1 hμ _; exact absurd hμ (Nat.not_lt_zero _)
    | succ n ihn =>
      intro x1_1 x2_1 τ1 hμ4 hJ
      have ih4 := ihn
      replace hJ := hst4 x1_1 x2_1 τ1 hJ
      refine V_iload_n C dX5_settle_4 2 rfl ?_
      refine V_aload_n C dX5_settle_5 0 rfl ?_
      refine V_get (ci := 5) C okX_0_0 uX5 rfl 0 (Nat.le_of_ble_eq_true rfl) rfl rfl f10 dX5_settle_6 ?_
      refine V_get (ci := 2) C (ok7 (by decide)) uX2 rfl 6 (Nat.le_of_ble_eq_true rfl) rfl rfl f83 dX5_settle_9 ?_
      obtain ⟨hJt, hJf⟩ := hJ
      refine V_icmp_ge C (tgt := 92) dX5_settle_12 rfl (fun hc2 => ?_) (fun hc2 => ?_)
      · have hJ := hJt hc2; clear hJt hJf
        refine V_iload_n C dX5_settle_92 1 rfl ?_
        exact V_iret C hr hlocks dX5_settle_93 hJ
      · have hJ := hJf hc2; clear hJt hJf
        refine V_aload_n C dX5_settle_15 0 rfl ?_
        refine V_get (ci := 5) C okX_0_0 uX5 rfl 0 (Nat.le_of_ble_eq_true rfl) rfl rfl f10 dX5_settle_16 ?_
        refine V_get (ci := 2) C (ok7 (by decide)) uX2 rfl 6 (Nat.le_of_ble_eq_true rfl) rfl rfl f83 dX5_settle_19 ?_
        refine V_iconst (v := 1) C dX5_settle_22 ci_1 ?_
        refine V_isub C dX5_settle_23 ?_
        refine V_topi (fun x3_3 hx3_3 => ?_)
        replace hJ := hJ x3_3 hx3_3
        refine V_istore_n (lv' := [(3, .int x3_3), (0, .ref (ad (0, 0, 0))), (1, .int x1_1), (2, .int x2_1)]) C dX5_settle_24 (by decide) rfl ?_
        refine V_sub (lv' := [(0, .ref (ad (0, 0, 0))), (1, .int x1_1), (2, .int x2_1), (3, .int x3_3)]) [1, 2, 3, 0] rfl ?_
        obtain ⟨I25, μ25, hI25, hst25⟩ := hJ
        have L25 : ∀ (n : Nat) (x1_4 : Int32) (x3_4 : Int32) (τ4 : Mem), μ25 x1_4 x3_4 τ4 < n → I25 x1_4 x3_4 τ4 → VV p l e (headSpec wsX5_settle ({ frames := 6, cells := 0, slots := 0, locals := 140 })).room s m ([.ref (ad (0, 0, 0))] : List Value).toArray below meth c D vwCl idsX ad (ceX tc ad) A (MQ below (va_Qi (fun (r : Int32) (u : Mem) => Qr r u) (WdO D vwCl idsX ad (ceX tc ad) A) A) ([.ref (ad (0, 0, 0))] : List Value).toArray s 0 0 A) 4 (0, 0) 25 [(0, .ref (ad (0, 0, 0))), (1, .int x1_4), (2, .int x2_1), (3, .int x3_4)] [] τ4 := by
          intro n
          induction n with
          | zero => intro x1_4 x3_4 τ4 hμ _; exact absurd hμ (Nat.not_lt_zero _)
          | succ n ihn =>
            intro x1_4 x3_4 τ4 hμ25 hJ
            have ih25 := ihn
            replace hJ := hst25 x1_4 x3_4 τ4 hJ
            refine V_iload_n C dX5_settle_25 3 rfl ?_
            refine V_iload_n C dX5_settle_26 2 rfl ?_
            obtain ⟨hJt, hJf⟩ := hJ
            refine V_icmp_le C (tgt := 86) dX5_settle_27 rfl (fun hc5 => ?_) (fun hc5 => ?_)
            · have hJ := hJt hc5; clear hJt hJf
              obtain ⟨x2_6, hx2_6⟩ : ∃ y : Int32, y = x2_1 + 1 := ⟨_, rfl⟩
              replace hJ := hJ x2_6 hx2_6
              refine V_iinc (v := x2_6) (lv' := [(2, .int x2_6), (0, .ref (ad (0, 0, 0))), (1, .int x1_4), (3, .int x3_4)]) C dX5_settle_86 2 rfl (by rw [hx2_6]; exact congrArg _ ci_1) (by decide) rfl ?_
              refine V_goto C (tgt := 4) dX5_settle_89 rfl ?_
              refine V_sub (lv' := [(0, .ref (ad (0, 0, 0))), (1, .int x1_4), (2, .int x2_6)]) [1, 2, 0] rfl ?_
              exact ih4 x1_4 x2_6 τ4 (Nat.lt_of_lt_of_le hJ.2 (Nat.le_of_lt_succ hμ4)) hJ.1
            · have hJ := hJf hc5; clear hJt hJf
              refine V_aload_n C dX5_settle_30 0 rfl ?_
              refine V_aload_n C dX5_settle_31 0 rfl ?_
              refine V_get (ci := 5) C okX_0_0 uX5 rfl 0 (Nat.le_of_ble_eq_true rfl) rfl rfl f10 dX5_settle_32 ?_
              refine V_get (ci := 2) C (ok7 (by decide)) uX2 rfl 2 (Nat.le_of_ble_eq_true rfl) rfl rfl f138 dX5_settle_35 ?_
              refine V_iload_n C dX5_settle_38 2 rfl ?_
              obtain ⟨hv7, hJ⟩ := hJ
              refine V_iald C (ok10 (by decide)) 0 rfl rfl rfl hv7 dX5_settle_39 ?_
              refine V_aload_n C dX5_settle_40 0 rfl ?_
              refine V_get (ci := 5) C okX_0_0 uX5 rfl 0 (Nat.le_of_ble_eq_true rfl) rfl rfl f10 dX5_settle_41 ?_
              refine V_get (ci := 2) C (ok7 (by decide)) uX2 rfl 2 (Nat.le_of_ble_eq_true rfl) rfl rfl f138 dX5_settle_44 ?_
              refine V_iload_n C dX5_settle_47 3 rfl ?_
              obtain ⟨hv8, hJ⟩ := hJ
              refine V_iald C (ok10 (by decide)) 0 rfl rfl rfl hv8 dX5_settle_48 ?_
              refine V_cVi (st := []) (ci := 5) C okX_0_0 ⟨Nat.zero_le _, Nat.zero_le _⟩ (M_X5_judge l D tc ad A (τ4 (10, 0, 0) x2_1.toNatClampNeg) (τ4 (10, 0, 0) x3_4.toNatClampNeg) hJ) (cwV 2 C.1.2.2.2.2 gX5_settle_X5_judge rfl rfl rfl (by decide +kernel) ⟨Nat.le_of_ble_eq_true rfl, Nat.le_of_ble_eq_true rfl⟩) rfl rfl rfl rfl (Nat.le_of_ble_eq_true rfl) dX5_settle_49 (fun r9 τ9 hJ => ?_)
              refine V_iconst (v := 2) C dX5_settle_52 ci_2 ?_
              obtain ⟨hJt, hJf⟩ := hJ
              refine V_icmp_ne C (tgt := 80) dX5_settle_53 rfl (fun hc10 => ?_) (fun hc10 => ?_)
              · have hJ := hJt hc10; clear hJt hJf
                obtain ⟨x3_11, hx3_11⟩ : ∃ y : Int32, y = x3_4 + (-1) := ⟨_, rfl⟩
                replace hJ := hJ x3_11 hx3_11
                refine V_iinc (v := x3_11) (lv' := [(3, .int x3_11), (0, .ref (ad (0, 0, 0))), (1, .int x1_4), (2, .int x2_1)]) C dX5_settle_80 3 rfl (by rw [hx3_11]; exact congrArg _ ci_m1) (by decide) rfl ?_
                refine V_goto C (tgt := 25) dX5_settle_83 rfl ?_
                refine V_sub (lv' := [(0, .ref (ad (0, 0, 0))), (1, .int x1_4), (2, .int x2_1), (3, .int x3_11)]) [1, 2, 3, 0] rfl ?_
                exact ih25 x1_4 x3_11 τ9 (Nat.lt_of_lt_of_le hJ.2 (Nat.le_of_lt_succ hμ25)) hJ.1
              · have hJ := hJf hc10; clear hJt hJf
                refine V_aload_n C dX5_settle_56 0 rfl ?_
                refine V_get (ci := 5) C okX_0_0 uX5 rfl 0 (Nat.le_of_ble_eq_true rfl) rfl rfl f10 dX5_settle_57 ?_
                refine V_get (ci := 2) C (ok7 (by decide)) uX2 rfl 1 (Nat.le_of_ble_eq_true rfl) rfl rfl f92 dX5_settle_60 ?_
                refine V_aload_n C dX5_settle_63 0 rfl ?_
                refine V_get (ci := 5) C okX_0_0 uX5 rfl 0 (Nat.le_of_ble_eq_true rfl) rfl rfl f10 dX5_settle_64 ?_
                refine V_get (ci := 2) C (ok7 (by decide)) uX2 rfl 2 (Nat.le_of_ble_eq_true rfl) rfl rfl f138 dX5_settle_67 ?_
                refine V_iload_n C dX5_settle_70 3 rfl ?_
                obtain ⟨hv12, hJ⟩ := hJ
                refine V_iald C (ok10 (by decide)) 0 rfl rfl rfl hv12 dX5_settle_71 ?_
                obtain ⟨hv13, hJ⟩ := hJ
                refine V_aald (o' := (14, 0, ((τ9 (10, 0, 0) x3_4.toNatClampNeg).toNatClampNeg))) C (ok9 (by decide)) 4 rfl rfl hv13 rfl dX5_settle_72 ?_
                refine V_iconst (v := 1) C dX5_settle_73 ci_1 ?_
                refine V_put (ci := 4) C (ok14 (by decide) (vp_lt hv13)) uX4 tyX4 tyX4_ok nmX4 rfl 11 (Nat.le_of_ble_eq_true rfl) rfl rfl f203 rfl (ty := .boolean) (by decide +kernel) (isB_narrow (Or.inr rfl)) (isB_fits (Or.inr rfl)) (Nat.le_of_ble_eq_true rfl) dX5_settle_74 (fun τ14 hτ14 => ?_)
                replace hJ := hJ τ14 hτ14
                obtain ⟨x1_15, hx1_15⟩ : ∃ y : Int32, y = x1_4 + 1 := ⟨_, rfl⟩
                replace hJ := hJ x1_15 hx1_15
                refine V_iinc (v := x1_15) (lv' := [(1, .int x1_15), (0, .ref (ad (0, 0, 0))), (2, .int x2_1), (3, .int x3_4)]) C dX5_settle_77 1 rfl (by rw [hx1_15]; exact congrArg _ ci_1) (by decide) rfl ?_
                obtain ⟨x3_16, hx3_16⟩ : ∃ y : Int32, y = x3_4 + (-1) := ⟨_, rfl⟩
                replace hJ := hJ x3_16 hx3_16
                refine V_iinc (v := x3_16) (lv' := [(3, .int x3_16), (1, .int x1_15), (0, .ref (ad (0, 0, 0))), (2, .int x2_1)]) C dX5_settle_80 3 rfl (by rw [hx3_16]; exact congrArg _ ci_m1) (by decide) rfl ?_
                refine V_goto C (tgt := 25) dX5_settle_83 rfl ?_
                refine V_sub (lv' := [(0, .ref (ad (0, 0, 0))), (1, .int x1_15), (2, .int x2_1), (3, .int x3_16)]) [2, 1, 3, 0] rfl ?_
                exact ih25 x1_15 x3_16 τ14 (Nat.lt_of_lt_of_le hJ.2 (Nat.le_of_lt_succ hμ25)) hJ.1
        exact L25 _ x1_1 x3_3 τ1 (Nat.lt_succ_self _) hI25
  exact L4 _ 0 0 σ (Nat.lt_succ_self _) hI4
set_option maxHeartbeats 4000000 in
set_option maxRecDepth 100000 in
theorem M_X5_account (l : Launch) (D : va_G) (tc : Nat → ClassId) (ad : Oid → Nat) (A : Nat → Prop) (x1 : Int32) {σ : Mem} {Qr : Int32 → Mem → Prop} (hJ : J_X5_account x1 σ Qr) : Met l yX5_account wsX5_account ({ frames := 1, cells := 0, slots := 0, locals := 22 }) (va_Pc [.ref (ad (0, 0, 0)), .int x1] (WdI D vwCl (tysX tc) idsX ad (ceX tc ad) A σ)) (va_Qi (fun (r : Int32) (u : Mem) => Qr r u) (WdO D vwCl idsX ad (ceX tc ad) A) A) 0 0 A := by
  refine V_meti (cc := cX5_account) (nL := 2) (ret := (some .int)) (own := RX5) rfl (plainFor_of_name (by decide)) rfl rfl (Nat.le_of_ble_eq_true rfl) ?_
  intro p e s m below meth c C hr hlocks
  refine V_sub (lv' := [(0, .ref (ad (0, 0, 0))), (1, .int x1)]) [0, 1] rfl ?_
  have f10 : Cond.fieldLink RX5 10 (TX5 0).1 (TX5 0).2.1 (TX5 0).2.2.1 ∈ wsX5_account := List.mem_of_getElem? (i := 1) rfl
  have uX5 : ∀ w ∈ u_ws RX5 TX5 6, w ∈ wsX5_account := by decide +kernel
  have f185 : Cond.fieldLink RX5 185 (TX2 4).1 (TX2 4).2.1 (TX2 4).2.2.1 ∈ wsX5_account := List.mem_of_getElem? (i := 2) rfl
  have uX2 : ∀ w ∈ u_ws RX2 TX2 10, w ∈ wsX5_account := by decide +kernel
  unfold J_X5_account at hJ
  refine V_iload_n C dX5_account_0 1 rfl ?_
  refine V_iconst (v := 0) C dX5_account_1 ci_0 ?_
  refine V_bipush (v := 6) C dX5_account_2 cb_6 ?_
  refine V_cSi (st := []) C ⟨Nat.zero_le _, Nat.zero_le _⟩ (M_X5_isWithin l D tc ad A x1 0 6 hJ) (va_cwS 3 C.1.2.2.2.2 gX5_account_X5_isWithin rfl rfl rfl (by decide +kernel) ⟨Nat.le_of_ble_eq_true rfl, Nat.le_of_ble_eq_true rfl⟩) rfl rfl (Nat.le_of_ble_eq_true rfl) dX5_account_4 (fun r1 τ1 hJ => ?_)
  obtain ⟨hJt, hJf⟩ := hJ
  refine V_if_eq C (tgt := 22) dX5_account_7 rfl (fun hc2 => ?_) (fun hc2 => ?_)
  · have hJ := hJt hc2; clear hJt hJf
    refine V_bipush (v := (-102)) C dX5_account_22 cb_m102 ?_
    exact V_iret C hr hlocks dX5_account_24 hJ
  · have hJ := hJf hc2; clear hJt hJf
    refine V_aload_n C dX5_account_10 0 rfl ?_
    refine V_get (ci := 5) C okX_0_0 uX5 rfl 0 (Nat.le_of_ble_eq_true rfl) rfl rfl f10 dX5_account_11 ?_
    refine V_get (ci := 2) C (ok7 (by decide)) uX2 rfl 4 (Nat.le_of_ble_eq_true rfl) rfl rfl f185 dX5_account_14 ?_
    refine V_iload_n C dX5_account_17 1 rfl ?_
    obtain ⟨hv3, hJ⟩ := hJ
    refine V_iald C (ok12 (by decide)) 0 rfl rfl rfl hv3 dX5_account_18 ?_
    refine V_goto C (tgt := 24) dX5_account_19 rfl ?_
    exact V_iret C hr hlocks dX5_account_24 hJ
