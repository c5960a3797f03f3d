set_option maxHeartbeats 4000000 in
set_option maxRecDepth 100000 in
theorem M_X2_passHour (l : Launch) (D : va_G) (tc : Nat → ClassId) (ad : Oid → Nat) (A : Nat → Prop) (j0 : Nat) (hj0 : j0 < 4) {σ : Mem} {Qr : Int32 → Mem → Prop} (hJ : J_X2_passHour j0 σ Qr) : Met l yX2_passHour wsX2_passHour ({ frames := 4, cells := 0, slots := 0, locals := 93 }) (va_Pc [.ref (ad (7, j0, 0)), .ref (ad (3, 0, 0))] (WdI D vwCl (tysX tc) idsX ad (ceX tc ad) A σ)) (va_Qi (fun (r : Int32) (u : Mem) => Qr r u) (WdO D vwCl idsX ad (ceX tc ad) A) A) 0 0 A := by
  refine V_meti (cc := cX2_passHour) (nL := 4) (ret := (some .int)) (own := RX2) rfl (plainFor_of_name (by decide)) rfl rfl (Nat.le_of_ble_eq_true rfl) ?_
  intro p e s m below meth c C hr hlocks
  refine V_sub (lv' := [(0, .ref (ad (7, j0, 0))), (1, .ref (ad (3, 0, 0)))]) [0, 1] rfl ?_
  have f30 : Cond.fieldLink RX2 30 (TX2 4).1 (TX2 4).2.1 (TX2 4).2.2.1 ∈ wsX2_passHour := List.mem_of_getElem? (i := 1) rfl
  have uX2 : ∀ w ∈ u_ws RX2 TX2 10, w ∈ wsX2_passHour := by decide +kernel
  have f124 : Cond.fieldLink RX2 124 (TX1 2).1 (TX1 2).2.1 (TX1 2).2.2.1 ∈ wsX2_passHour := List.mem_of_getElem? (i := 2) rfl
  have uX1 : ∀ w ∈ u_ws RX1 TX1 6, w ∈ wsX2_passHour := by decide +kernel
  have f49 : Cond.fieldLink RX2 49 (TX2 5).1 (TX2 5).2.1 (TX2 5).2.2.1 ∈ wsX2_passHour := List.mem_of_getElem? (i := 3) rfl
  have f64 : Cond.fieldLink RX2 64 (TX2 6).1 (TX2 6).2.1 (TX2 6).2.2.1 ∈ wsX2_passHour := List.mem_of_getElem? (i := 4) rfl
  have f71 : Cond.fieldLink RX2 71 (TX2 9).1 (TX2 9).2.1 (TX2 9).2.2.1 ∈ wsX2_passHour := List.mem_of_getElem? (i := 7) rfl
  have f19 : Cond.fieldLink RX2 19 (TX2 1).1 (TX2 1).2.1 (TX2 1).2.2.1 ∈ wsX2_passHour := List.mem_of_getElem? (i := 5) rfl
  have f133 : Cond.fieldLink RX2 133 (TX1 1).1 (TX1 1).2.1 (TX1 1).2.2.1 ∈ wsX2_passHour := List.mem_of_getElem? (i := 6) rfl
  unfold J_X2_passHour at hJ
  refine V_aload_n C dX2_passHour_0 1 rfl ?_
  refine V_aload_n C dX2_passHour_1 0 rfl ?_
  refine V_cVv (st := []) (ci := 1) C okX_3_0 (M_X1_distribute l D tc ad A j0 hj0 hJ) (cwV 1 C.1.2.2.2.2 gX2_passHour_X1_distribute rfl rfl rfl (by decide +kernel) ⟨Nat.le_of_ble_eq_true rfl, Nat.le_of_ble_eq_true rfl⟩) rfl rfl rfl rfl (Nat.le_of_ble_eq_true rfl) dX2_passHour_2 (fun τ1 hJ => ?_)
  refine V_aload_n C dX2_passHour_5 0 rfl ?_
  refine V_get (ci := 2) C (ok7 hj0) uX2 rfl 4 (Nat.le_of_ble_eq_true rfl) rfl rfl f30 dX2_passHour_6 ?_
  refine V_bipush (v := 6) C dX2_passHour_9 cb_6 ?_
  refine V_iald C (ok12 hj0) 0 rfl rfl ix_6 vpc_6_7 dX2_passHour_11 ?_
  refine V_topi (fun x2_2 hx2_2 => ?_)
  replace hJ := hJ x2_2 hx2_2
  refine V_istore_n (lv' := [(2, .int x2_2), (0, .ref (ad (7, j0, 0))), (1, .ref (ad (3, 0, 0)))]) C dX2_passHour_12 (by decide) rfl ?_
  refine V_aload_n C dX2_passHour_13 1 rfl ?_
  refine V_get (ci := 2) C (ok7 hj0) uX2 rfl 4 (Nat.le_of_ble_eq_true rfl) rfl rfl f30 dX2_passHour_14 ?_
  refine V_iconst (v := 0) C dX2_passHour_17 ci_0 ?_
  refine V_dup2 C dX2_passHour_18 rfl rfl ?_
  refine V_iald C (ok12 hj0) 0 rfl rfl ix_0 vpc_0_7 dX2_passHour_19 ?_
  refine V_aload_n C dX2_passHour_20 2 rfl ?_
  refine V_get (ci := 1) C okX_3_0 uX1 rfl 2 (Nat.le_of_ble_eq_true rfl) rfl rfl f124 dX2_passHour_21 ?_
  refine V_iconst (v := 0) C dX2_passHour_24 ci_0 ?_
  refine V_iald C okX_15_0 0 rfl rfl ix_0 vpc_0_10 dX2_passHour_25 ?_
  refine V_iadd C dX2_passHour_26 ?_
  refine V_iast C (ok12 hj0) 0 rfl (fun _ => rfl) ix_0 vpc_0_7 dX2_passHour_27 (fun τ3 hτ3 => ?_)
  replace hJ := hJ τ3 hτ3
  refine V_aload_n C dX2_passHour_28 1 rfl ?_
  refine V_get (ci := 2) C (ok7 hj0) uX2 rfl 4 (Nat.le_of_ble_eq_true rfl) rfl rfl f30 dX2_passHour_29 ?_
  refine V_iconst (v := 1) C dX2_passHour_32 ci_1 ?_
  refine V_dup2 C dX2_passHour_33 rfl rfl ?_
  refine V_iald C (ok12 hj0) 0 rfl rfl ix_1 vpc_1_7 dX2_passHour_34 ?_
  refine V_aload_n C dX2_passHour_35 1 rfl ?_
  refine V_cVi (st := [.int (τ3 (12, j0, 0) 1), .int 1, .ref (ad (12, j0, 0))]) (ci := 2) C (ok7 hj0) (M_X2_supplyNow l D tc ad A j0 hj0 hJ) (cwV 0 C.1.2.2.2.2 gX2_passHour_X2_supplyNow rfl rfl rfl (by decide +kernel) ⟨Nat.le_of_ble_eq_true rfl, Nat.le_of_ble_eq_true rfl⟩) rfl rfl rfl rfl (Nat.le_of_ble_eq_true rfl) dX2_passHour_36 (fun r4 τ4 hJ => ?_)
  refine V_aload_n C dX2_passHour_39 2 rfl ?_
  refine V_get (ci := 1) C okX_3_0 uX1 rfl 2 (Nat.le_of_ble_eq_true rfl) rfl rfl f124 dX2_passHour_40 ?_
  refine V_iconst (v := 0) C dX2_passHour_43 ci_0 ?_
  refine V_iald C okX_15_0 0 rfl rfl ix_0 vpc_0_10 dX2_passHour_44 ?_
  refine V_isub C dX2_passHour_45 ?_
  refine V_iadd C dX2_passHour_46 ?_
  refine V_iast C (ok12 hj0) 0 rfl (fun _ => rfl) ix_1 vpc_1_7 dX2_passHour_47 (fun τ5 hτ5 => ?_)
  replace hJ := hJ τ5 hτ5
  refine V_iconst (v := 0) C dX2_passHour_48 ci_0 ?_
  refine V_istore_n (lv' := [(3, .int 0), (2, .int x2_2), (0, .ref (ad (7, j0, 0))), (1, .ref (ad (3, 0, 0)))]) C dX2_passHour_49 (by decide) rfl ?_
  refine V_sub (lv' := [(0, .ref (ad (7, j0, 0))), (1, .ref (ad (3, 0, 0))), (2, .int x2_2), (3, .int 0)]) [2, 3, 1, 0] rfl ?_
  obtain ⟨I50, μ50, hI50, hst50⟩ := hJ
  have L50 : ∀ (n : Nat) (x3_6 : Int32) (τ6 : Mem), μ50 x3_6 τ6 < n → I50 x3_6 τ6 → VV p l e (headSpec wsX2_passHour ({ frames := 4, cells := 0, slots := 0, locals := 93 })).room s m ([.ref (ad (7, j0, 0)), .ref (ad (3, 0, 0))] : List Value).toArray below meth c D vwCl idsX ad (ceX tc ad) A (MQ below (va_Qi (fun (r : Int32) (u : Mem) => Qr r u) (WdO D vwCl idsX ad (ceX tc ad) A) A) ([.ref (ad (7, j0, 0)), .ref (ad (3, 0, 0))] : List Value).toArray s 0 0 A) 4 50 [(0, .ref (ad (7, j0, 0))), (1, .ref (ad (3, 0, 0))), (2, .int x2_2), (3, .int x3_6)] [] τ6 := by
    intro n
    induction n with
    | zero => intro x3_6 τ6 hμ _; exact absurd hμ (Nat.not_lt_zero _)
    | succ n ihn =>
      intro x3_6 τ6 hμ50 hJ
      have ih50 := ihn
      replace hJ := hst50 x3_6 τ6 hJ
      refine V_iload_n C dX2_passHour_50 3 rfl ?_
      refine V_aload_n C dX2_passHour_51 0 rfl ?_
      refine V_get (ci := 2) C (ok7 hj0) uX2 rfl 5 (Nat.le_of_ble_eq_true rfl) rfl rfl f49 dX2_passHour_52 ?_
      obtain ⟨hJt, hJf⟩ := hJ
      refine V_icmp_ge C (tgt := 78) dX2_passHour_55 rfl (fun hc7 => ?_) (fun hc7 => ?_)
      · have hJ := hJt hc7; clear hJt hJf
        refine V_iconst (v := 0) C dX2_passHour_78 ci_0 ?_
        refine V_istore_n (lv' := [(3, .int 0), (0, .ref (ad (7, j0, 0))), (1, .ref (ad (3, 0, 0))), (2, .int x2_2)]) C dX2_passHour_79 (by decide) rfl ?_
        refine V_sub (lv' := [(0, .ref (ad (7, j0, 0))), (1, .ref (ad (3, 0, 0))), (2, .int x2_2), (3, .int 0)]) [1, 2, 3, 0] rfl ?_
        obtain ⟨I80, μ80, hI80, hst80⟩ := hJ
        have L80 : ∀ (n : Nat) (x3_8 : Int32) (τ8 : Mem), μ80 x3_8 τ8 < n → I80 x3_8 τ8 → VV p l e (headSpec wsX2_passHour ({ frames := 4, cells := 0, slots := 0, locals := 93 })).room s m ([.ref (ad (7, j0, 0)), .ref (ad (3, 0, 0))] : List Value).toArray below meth c D vwCl idsX ad (ceX tc ad) A (MQ below (va_Qi (fun (r : Int32) (u : Mem) => Qr r u) (WdO D vwCl idsX ad (ceX tc ad) A) A) ([.ref (ad (7, j0, 0)), .ref (ad (3, 0, 0))] : List Value).toArray s 0 0 A) 4 80 [(0, .ref (ad (7, j0, 0))), (1, .ref (ad (3, 0, 0))), (2, .int x2_2), (3, .int x3_8)] [] τ8 := by
          intro n
          induction n with
          | zero => intro x3_8 τ8 hμ _; exact absurd hμ (Nat.not_lt_zero _)
          | succ n ihn =>
            intro x3_8 τ8 hμ80 hJ
            have ih80 := ihn
            replace hJ := hst80 x3_8 τ8 hJ
            refine V_iload_n C dX2_passHour_80 3 rfl ?_
            refine V_aload_n C dX2_passHour_81 0 rfl ?_
            refine V_get (ci := 2) C (ok7 hj0) uX2 rfl 6 (Nat.le_of_ble_eq_true rfl) rfl rfl f64 dX2_passHour_82 ?_
            obtain ⟨hJt, hJf⟩ := hJ
            refine V_icmp_ge C (tgt := 110) dX2_passHour_85 rfl (fun hc9 => ?_) (fun hc9 => ?_)
            · have hJ := hJt hc9; clear hJt hJf
              refine V_aload_n C dX2_passHour_110 0 rfl ?_
              refine V_dup C dX2_passHour_111 rfl ?_
              refine V_get (ci := 2) C (ok7 hj0) uX2 rfl 9 (Nat.le_of_ble_eq_true rfl) rfl rfl f71 dX2_passHour_112 ?_
              refine V_iconst (v := 1) C dX2_passHour_115 ci_1 ?_
              refine V_iadd C dX2_passHour_116 ?_
              refine V_put (ci := 2) C (ok7 hj0) uX2 tyX2 tyX2_ok nmX2 rfl 9 (Nat.le_of_ble_eq_true rfl) rfl rfl f71 rfl (ty := .int) (by decide +kernel) rfl rfl (Nat.le_of_ble_eq_true rfl) dX2_passHour_117 (fun τ10 hτ10 => ?_)
              replace hJ := hJ τ10 hτ10
              refine V_aload_n C dX2_passHour_120 0 rfl ?_
              refine V_get (ci := 2) C (ok7 hj0) uX2 rfl 4 (Nat.le_of_ble_eq_true rfl) rfl rfl f30 dX2_passHour_121 ?_
              refine V_bipush (v := 6) C dX2_passHour_124 cb_6 ?_
              refine V_iald C (ok12 hj0) 0 rfl rfl ix_6 vpc_6_7 dX2_passHour_126 ?_
              refine V_iload_n C dX2_passHour_127 2 rfl ?_
              refine V_isub C dX2_passHour_128 ?_
              exact V_iret C hr hlocks dX2_passHour_129 hJ
            · have hJ := hJf hc9; clear hJt hJf
              refine V_aload_n C dX2_passHour_88 0 rfl ?_
              refine V_aload_n C dX2_passHour_89 0 rfl ?_
              refine V_get (ci := 2) C (ok7 hj0) uX2 rfl 1 (Nat.le_of_ble_eq_true rfl) rfl rfl f19 dX2_passHour_90 ?_
              refine V_iload_n C dX2_passHour_93 3 rfl ?_
              obtain ⟨hv11, hJ⟩ := hJ
              refine V_aald (o' := (14, j0, x3_8.toNatClampNeg)) C (ok9 hj0) 4 rfl rfl hv11 rfl dX2_passHour_94 ?_
              refine V_aload_n C dX2_passHour_95 1 rfl ?_
              refine V_get (ci := 1) C okX_3_0 uX1 rfl 1 (Nat.le_of_ble_eq_true rfl) rfl rfl f133 dX2_passHour_96 ?_
              refine V_iload_n C dX2_passHour_99 3 rfl ?_
              obtain ⟨hv12, hJ⟩ := hJ
              refine V_iald C okX_4_1 0 rfl rfl rfl hv12 dX2_passHour_100 ?_
              refine V_cVv (st := []) (ci := 2) C (ok7 hj0) (M_X2_useWater l D tc ad A j0 hj0 j0 x3_8.toNatClampNeg hj0 (vp_lt hv11) (τ8 (4, 1, 0) x3_8.toNatClampNeg) hJ) (cwV 2 C.1.2.2.2.2 gX2_passHour_X2_useWater rfl rfl rfl (by decide +kernel) ⟨Nat.le_of_ble_eq_true rfl, Nat.le_of_ble_eq_true rfl⟩) rfl rfl rfl rfl (Nat.le_of_ble_eq_true rfl) dX2_passHour_101 (fun τ13 hJ => ?_)
              obtain ⟨x3_14, hx3_14⟩ : ∃ y : Int32, y = x3_8 + 1 := ⟨_, rfl⟩
              replace hJ := hJ x3_14 hx3_14
              refine V_iinc (v := x3_14) (lv' := [(3, .int x3_14), (0, .ref (ad (7, j0, 0))), (1, .ref (ad (3, 0, 0))), (2, .int x2_2)]) C dX2_passHour_104 3 rfl (by rw [hx3_14]; exact congrArg _ ci_1) (by decide) rfl ?_
              refine V_goto C (tgt := 80) dX2_passHour_107 rfl ?_
              refine V_sub (lv' := [(0, .ref (ad (7, j0, 0))), (1, .ref (ad (3, 0, 0))), (2, .int x2_2), (3, .int x3_14)]) [1, 2, 3, 0] rfl ?_
              exact ih80 x3_14 τ13 (Nat.lt_of_lt_of_le hJ.2 (Nat.le_of_lt_succ hμ80)) hJ.1
        exact L80 _ 0 τ6 (Nat.lt_succ_self _) hI80
      · have hJ := hJf hc7; clear hJt hJf
        refine V_aload_n C dX2_passHour_58 0 rfl ?_
        refine V_get (ci := 2) C (ok7 hj0) uX2 rfl 4 (Nat.le_of_ble_eq_true rfl) rfl rfl f30 dX2_passHour_59 ?_
        refine V_iconst (v := 2) C dX2_passHour_62 ci_2 ?_
        refine V_dup2 C dX2_passHour_63 rfl rfl ?_
        refine V_iald C (ok12 hj0) 0 rfl rfl ix_2 vpc_2_7 dX2_passHour_64 ?_
        refine V_aload_n C dX2_passHour_65 1 rfl ?_
        refine V_iload_n C dX2_passHour_66 3 rfl ?_
        refine V_cVi (st := [.int (τ6 (12, j0, 0) 2), .int 2, .ref (ad (12, j0, 0))]) (ci := 1) C okX_3_0 (M_X1_lostIn l D tc ad A x3_6 hJ) (cwV 1 C.1.2.2.2.2 gX2_passHour_X1_lostIn rfl rfl rfl (by decide +kernel) ⟨Nat.le_of_ble_eq_true rfl, Nat.le_of_ble_eq_true rfl⟩) rfl rfl rfl rfl (Nat.le_of_ble_eq_true rfl) dX2_passHour_67 (fun r15 τ15 hJ => ?_)
        refine V_iadd C dX2_passHour_70 ?_
        refine V_iast C (ok12 hj0) 0 rfl (fun _ => rfl) ix_2 vpc_2_7 dX2_passHour_71 (fun τ16 hτ16 => ?_)
        replace hJ := hJ τ16 hτ16
        obtain ⟨x3_17, hx3_17⟩ : ∃ y : Int32, y = x3_6 + 1 := ⟨_, rfl⟩
        replace hJ := hJ x3_17 hx3_17
        refine V_iinc (v := x3_17) (lv' := [(3, .int x3_17), (0, .ref (ad (7, j0, 0))), (1, .ref (ad (3, 0, 0))), (2, .int x2_2)]) C dX2_passHour_72 3 rfl (by rw [hx3_17]; exact congrArg _ ci_1) (by decide) rfl ?_
        refine V_goto C (tgt := 50) dX2_passHour_75 rfl ?_
        refine V_sub (lv' := [(0, .ref (ad (7, j0, 0))), (1, .ref (ad (3, 0, 0))), (2, .int x2_2), (3, .int x3_17)]) [1, 2, 3, 0] rfl ?_
        exact ih50 x3_17 τ16 (Nat.lt_of_lt_of_le hJ.2 (Nat.le_of_lt_succ hμ50)) hJ.1
  exact L50 _ 0 τ5 (Nat.lt_succ_self _) hI50
set_option maxHeartbeats 4000000 in
set_option maxRecDepth 100000 in
theorem M_X2_putUser (l : Launch) (D : va_G) (tc : Nat → ClassId) (ad : Oid → Nat) (A : Nat → Prop) (j0 : Nat) (hj0 : j0 < 4) (x1 : Int32) (x2 : Int32) (x3 : Int32) {σ : Mem} {Qr : Mem → Prop} (hJ : J_X2_putUser j0 x1 x2 x3 σ Qr) : Met l yX2_putUser wsX2_putUser ({ frames := 1, cells := 0, slots := 0, locals := 23 }) (va_Pc [.ref (ad (7, j0, 0)), .int x1, .int x2, .int x3] (WdI D vwCl (tysX tc) idsX ad (ceX tc ad) A σ)) (va_Qv (fun (u : Mem) => Qr u) (WdO D vwCl idsX ad (ceX tc ad) A) A) 0 0 A := by
  refine V_metv (cc := cX2_putUser) (nL := 5) (ret := none) (own := RX2) rfl (plainFor_of_name (by decide)) rfl rfl (Nat.le_of_ble_eq_true rfl) ?_
  intro p e s m below meth c C hr hlocks
  refine V_sub (lv' := [(0, .ref (ad (7, j0, 0))), (1, .int x1), (2, .int x2), (3, .int x3)]) [0, 1, 2, 3] rfl ?_
  have f64 : Cond.fieldLink RX2 64 (TX2 6).1 (TX2 6).2.1 (TX2 6).2.2.1 ∈ wsX2_putUser := List.mem_of_getElem? (i := 1) rfl
  have uX2 : ∀ w ∈ u_ws RX2 TX2 10, w ∈ wsX2_putUser := by decide +kernel
  have f23 : Cond.fieldLink RX2 23 (TX2 2).1 (TX2 2).2.1 (TX2 2).2.2.1 ∈ wsX2_putUser := List.mem_of_getElem? (i := 3) rfl
  have f19 : Cond.fieldLink RX2 19 (TX2 1).1 (TX2 1).2.1 (TX2 1).2.2.1 ∈ wsX2_putUser := List.mem_of_getElem? (i := 2) rfl
  have f81 : Cond.fieldLink RX2 81 (TX4 1).1 (TX4 1).2.1 (TX4 1).2.2.1 ∈ wsX2_putUser := List.mem_of_getElem? (i := 4) rfl
  have uX4 : ∀ w ∈ u_ws RX4 TX4 12, w ∈ wsX2_putUser := by decide +kernel
  have B62 : ∀ (b1 : Int32) (b2 : Int32) (b3 : Int32) (b4 : Int32) (τ : Mem), J_X2_putUser_b62 j0 x1 x2 x3  b1 b2 b3 b4 τ Qr → VV p l e (headSpec wsX2_putUser ({ frames := 1, cells := 0, slots := 0, locals := 23 })).room s m ([.ref (ad (7, j0, 0)), .int x1, .int x2, .int x3] : List Value).toArray below meth c D vwCl idsX ad (ceX tc ad) A (MQ below (va_Qv (fun (u : Mem) => Qr u) (WdO D vwCl idsX ad (ceX tc ad) A) A) ([.ref (ad (7, j0, 0)), .int x1, .int x2, .int x3] : List Value).toArray s 0 0 A) 5 62 [(0, .ref (ad (7, j0, 0))), (1, .int b1), (2, .int b2), (3, .int b3), (4, .int b4)] [] τ := by
    intro b1 b2 b3 b4 τ hJ
    unfold J_X2_putUser_b62 at hJ
    refine V_aload_n C dX2_putUser_62 0 rfl ?_
    refine V_get (ci := 2) C (ok7 hj0) uX2 rfl 2 (Nat.le_of_ble_eq_true rfl) rfl rfl f23 dX2_putUser_63 ?_
    refine V_iload C dX2_putUser_66 4 rfl ?_
    refine V_aload_n C dX2_putUser_68 0 rfl ?_
    refine V_get (ci := 2) C (ok7 hj0) uX2 rfl 6 (Nat.le_of_ble_eq_true rfl) rfl rfl f64 dX2_putUser_69 ?_
    obtain ⟨hv6, hJ⟩ := hJ
    refine V_iast C (ok10 hj0) 0 rfl (fun _ => rfl) rfl hv6 dX2_putUser_72 (fun τ7 hτ7 => ?_)
    replace hJ := hJ τ7 hτ7
    refine V_aload_n C dX2_putUser_73 0 rfl ?_
    refine V_get (ci := 2) C (ok7 hj0) uX2 rfl 1 (Nat.le_of_ble_eq_true rfl) rfl rfl f19 dX2_putUser_74 ?_
    refine V_aload_n C dX2_putUser_77 0 rfl ?_
    refine V_get (ci := 2) C (ok7 hj0) uX2 rfl 6 (Nat.le_of_ble_eq_true rfl) rfl rfl f64 dX2_putUser_78 ?_
    obtain ⟨hv8, hJ⟩ := hJ
    refine V_aald (o' := (14, j0, ((τ7 (7, j0, 0) 6).toNatClampNeg))) C (ok9 hj0) 4 rfl rfl hv8 rfl dX2_putUser_81 ?_
    refine V_iload_n C dX2_putUser_82 1 rfl ?_
    refine V_iload_n C dX2_putUser_83 2 rfl ?_
    refine V_iload_n C dX2_putUser_84 3 rfl ?_
    refine V_cVv (st := []) (ci := 4) C (ok14 hj0 (vp_lt hv8)) (M_X4_begin l D tc ad A j0 ((τ7 (7, j0, 0) 6).toNatClampNeg) hj0 (vp_lt hv8) b1 b2 b3 hJ) (cwV 3 C.1.2.2.2.2 gX2_putUser_X4_begin rfl rfl rfl (by decide +kernel) ⟨Nat.le_of_ble_eq_true rfl, Nat.le_of_ble_eq_true rfl⟩) rfl rfl rfl rfl (Nat.le_of_ble_eq_true rfl) dX2_putUser_85 (fun τ9 hJ => ?_)
    refine V_aload_n C dX2_putUser_88 0 rfl ?_
    refine V_dup C dX2_putUser_89 rfl ?_
    refine V_get (ci := 2) C (ok7 hj0) uX2 rfl 6 (Nat.le_of_ble_eq_true rfl) rfl rfl f64 dX2_putUser_90 ?_
    refine V_iconst (v := 1) C dX2_putUser_93 ci_1 ?_
    refine V_iadd C dX2_putUser_94 ?_
    refine V_put (ci := 2) C (ok7 hj0) uX2 tyX2 tyX2_ok nmX2 rfl 6 (Nat.le_of_ble_eq_true rfl) rfl rfl f64 rfl (ty := .int) (by decide +kernel) rfl rfl (Nat.le_of_ble_eq_true rfl) dX2_putUser_95 (fun τ10 hτ10 => ?_)
    replace hJ := hJ τ10 hτ10
    exact V_vret C hr hlocks dX2_putUser_98 hJ
  unfold J_X2_putUser at hJ
  refine V_aload_n C dX2_putUser_0 0 rfl ?_
  refine V_cVi (st := []) (ci := 2) C (ok7 hj0) (M_X2_hasRoomForUser l D tc ad A j0 hj0 hJ) (cwV 0 C.1.2.2.2.2 gX2_putUser_X2_hasRoomForUser rfl rfl rfl (by decide +kernel) ⟨Nat.le_of_ble_eq_true rfl, Nat.le_of_ble_eq_true rfl⟩) rfl rfl rfl rfl (Nat.le_of_ble_eq_true rfl) dX2_putUser_1 (fun r1 τ1 hJ => ?_)
  obtain ⟨hJt, hJf⟩ := hJ
  refine V_if_ne C (tgt := 8) dX2_putUser_4 rfl (fun hc2 => ?_) (fun hc2 => ?_)
  · have hJ := hJt hc2; clear hJt hJf
    refine V_aload_n C dX2_putUser_8 0 rfl ?_
    refine V_get (ci := 2) C (ok7 hj0) uX2 rfl 6 (Nat.le_of_ble_eq_true rfl) rfl rfl f64 dX2_putUser_9 ?_
    refine V_topi (fun x4_3 hx4_3 => ?_)
    replace hJ := hJ x4_3 hx4_3
    refine V_istore (lv' := [(4, .int x4_3), (0, .ref (ad (7, j0, 0))), (1, .int x1), (2, .int x2), (3, .int x3)]) C dX2_putUser_12 (by decide) rfl ?_
    refine V_sub (lv' := [(0, .ref (ad (7, j0, 0))), (1, .int x1), (2, .int x2), (3, .int x3), (4, .int x4_3)]) [1, 2, 3, 4, 0] rfl ?_
    obtain ⟨I14, μ14, hI14, hst14⟩ := hJ
    have L14 : ∀ (n : Nat) (x4_4 : Int32) (τ4 : Mem), μ14 x4_4 τ4 < n → I14 x4_4 τ4 → VV p l e (headSpec wsX2_putUser ({ frames := 1, cells := 0, slots := 0, locals := 23 })).room s m ([.ref (ad (7, j0, 0)), .int x1, .int x2, .int x3] : List Value).toArray below meth c D vwCl idsX ad (ceX tc ad) A (MQ below (va_Qv (fun (u : Mem) => Qr u) (WdO D vwCl idsX ad (ceX tc ad) A) A) ([.ref (ad (7, j0, 0)), .int x1, .int x2, .int x3] : List Value).toArray s 0 0 A) 5 14 [(0, .ref (ad (7, j0, 0))), (1, .int x1), (2, .int x2), (3, .int x3), (4, .int x4_4)] [] τ4 := by
      intro n
      induction n with
      | zero => intro x4_4 τ4 hμ _; exact absurd hμ (Nat.not_lt_zero _)
      | succ n ihn =>
        intro x4_4 τ4 hμ14 hJ
        have ih14 := ihn
        replace hJ := hst14 x4_4 τ4 hJ
        refine V_iload C dX2_putUser_14 4 rfl ?_
        obtain ⟨hJt, hJf⟩ := hJ
        refine V_if_le C (tgt := 62) dX2_putUser_16 rfl (fun hc5 => ?_) (fun hc5 => ?_)
        · have hJ := hJt hc5; clear hJt hJf
          exact B62 x1 x2 x3 x4_4 τ4 hJ
        · have hJ := hJf hc5; clear hJt hJf
          refine V_aload_n C dX2_putUser_19 0 rfl ?_
          refine V_get (ci := 2) C (ok7 hj0) uX2 rfl 1 (Nat.le_of_ble_eq_true rfl) rfl rfl f19 dX2_putUser_20 ?_
          refine V_aload_n C dX2_putUser_23 0 rfl ?_
          refine V_get (ci := 2) C (ok7 hj0) uX2 rfl 2 (Nat.le_of_ble_eq_true rfl) rfl rfl f23 dX2_putUser_24 ?_
          refine V_iload C dX2_putUser_27 4 rfl ?_
          refine V_iconst (v := 1) C dX2_putUser_29 ci_1 ?_
          refine V_isub C dX2_putUser_30 ?_
          obtain ⟨hv11, hJ⟩ := hJ
          refine V_iald C (ok10 hj0) 0 rfl rfl rfl hv11 dX2_putUser_31 ?_
          obtain ⟨hv12, hJ⟩ := hJ
          refine V_aald (o' := (14, j0, ((τ4 (10, j0, 0) ((x4_4 - 1).toNatClampNeg)).toNatClampNeg))) C (ok9 hj0) 4 rfl rfl hv12 rfl dX2_putUser_32 ?_
          refine V_get (ci := 4) C (ok14 hj0 (vp_lt hv12)) uX4 rfl 1 (Nat.le_of_ble_eq_true rfl) rfl rfl f81 dX2_putUser_33 ?_
          refine V_iload_n C dX2_putUser_36 2 rfl ?_
          obtain ⟨hJt, hJf⟩ := hJ
          refine V_icmp_le C (tgt := 62) dX2_putUser_37 rfl (fun hc13 => ?_) (fun hc13 => ?_)
          · have hJ := hJt hc13; clear hJt hJf
            exact B62 x1 x2 x3 x4_4 τ4 hJ
          · have hJ := hJf hc13; clear hJt hJf
            refine V_aload_n C dX2_putUser_40 0 rfl ?_
            refine V_get (ci := 2) C (ok7 hj0) uX2 rfl 2 (Nat.le_of_ble_eq_true rfl) rfl rfl f23 dX2_putUser_41 ?_
            refine V_iload C dX2_putUser_44 4 rfl ?_
            refine V_aload_n C dX2_putUser_46 0 rfl ?_
            refine V_get (ci := 2) C (ok7 hj0) uX2 rfl 2 (Nat.le_of_ble_eq_true rfl) rfl rfl f23 dX2_putUser_47 ?_
            refine V_iload C dX2_putUser_50 4 rfl ?_
            refine V_iconst (v := 1) C dX2_putUser_52 ci_1 ?_
            refine V_isub C dX2_putUser_53 ?_
            obtain ⟨hv14, hJ⟩ := hJ
            refine V_iald C (ok10 hj0) 0 rfl rfl rfl hv14 dX2_putUser_54 ?_
            obtain ⟨hv15, hJ⟩ := hJ
            refine V_iast C (ok10 hj0) 0 rfl (fun _ => rfl) rfl hv15 dX2_putUser_55 (fun τ16 hτ16 => ?_)
            replace hJ := hJ τ16 hτ16
            obtain ⟨x4_17, hx4_17⟩ : ∃ y : Int32, y = x4_4 + (-1) := ⟨_, rfl⟩
            replace hJ := hJ x4_17 hx4_17
            refine V_iinc (v := x4_17) (lv' := [(4, .int x4_17), (0, .ref (ad (7, j0, 0))), (1, .int x1), (2, .int x2), (3, .int x3)]) C dX2_putUser_56 4 rfl (by rw [hx4_17]; exact congrArg _ ci_m1) (by decide) rfl ?_
            refine V_goto C (tgt := 14) dX2_putUser_59 rfl ?_
            refine V_sub (lv' := [(0, .ref (ad (7, j0, 0))), (1, .int x1), (2, .int x2), (3, .int x3), (4, .int x4_17)]) [1, 2, 3, 4, 0] rfl ?_
            exact ih14 x4_17 τ16 (Nat.lt_of_lt_of_le hJ.2 (Nat.le_of_lt_succ hμ14)) hJ.1
    exact L14 _ x4_3 τ1 (Nat.lt_succ_self _) hI14
  · have hJ := hJf hc2; clear hJt hJf
    exact V_vret C hr hlocks dX2_putUser_7 hJ
set_option maxHeartbeats 4000000 in
set_option maxRecDepth 100000 in
theorem M_X3_letterHere (l : Launch) (D : va_G) (tc : Nat → ClassId) (ad : Oid → Nat) (A : Nat → Prop) {σ : Mem} {Qr : Int32 → Mem → Prop} (hJ : J_X3_letterHere σ Qr) : Met l yX3_letterHere wsX3_letterHere ({ frames := 0, cells := 0, slots := 0, locals := 0 }) (va_Pc [.ref (ad (5, 0, 0))] (WdI D vwCl (tysX tc) idsX ad (ceX tc ad) A σ)) (va_Qi (fun (r : Int32) (u : Mem) => Qr r u) (WdO D vwCl idsX ad (ceX tc ad) A) A) 0 0 A := by
  refine V_meti (cc := cX3_letterHere) (nL := 1) (ret := (some .int)) (own := RX3) rfl (plainFor_of_name (by decide)) rfl rfl (Nat.le_of_ble_eq_true rfl) ?_
  intro p e s m below meth c C hr hlocks
  refine V_sub (lv' := [(0, .ref (ad (5, 0, 0)))]) [0] rfl ?_
  have f26 : Cond.fieldLink RX3 26 (TX3 4).1 (TX3 4).2.1 (TX3 4).2.2.1 ∈ wsX3_letterHere := List.mem_of_getElem? (i := 1) rfl
  have uX3 : ∀ w ∈ u_ws RX3 TX3 5, w ∈ wsX3_letterHere := by decide +kernel
  have f19 : Cond.fieldLink RX3 19 (TX3 0).1 (TX3 0).2.1 (TX3 0).2.2.1 ∈ wsX3_letterHere := List.mem_of_getElem? (i := 2) rfl
  have f15 : Cond.fieldLink RX3 15 (TX3 3).1 (TX3 3).2.1 (TX3 3).2.2.1 ∈ wsX3_letterHere := List.mem_of_getElem? (i := 3) rfl
  unfold J_X3_letterHere at hJ
  refine V_aload_n C dX3_letterHere_0 0 rfl ?_
  refine V_get (ci := 3) C okX_5_0 uX3 rfl 4 (Nat.le_of_ble_eq_true rfl) rfl rfl f26 dX3_letterHere_1 ?_
  refine V_aload_n C dX3_letterHere_4 0 rfl ?_
  refine V_get (ci := 3) C okX_5_0 uX3 rfl 0 (Nat.le_of_ble_eq_true rfl) rfl rfl f19 dX3_letterHere_5 ?_
  obtain ⟨hJt, hJf⟩ := hJ
  refine V_icmp_ge C (tgt := 23) dX3_letterHere_8 rfl (fun hc1 => ?_) (fun hc1 => ?_)
  · have hJ := hJt hc1; clear hJt hJf
    refine V_iconst (v := 0) C dX3_letterHere_23 ci_0 ?_
    exact V_iret C hr hlocks dX3_letterHere_24 hJ
  · have hJ := hJf hc1; clear hJt hJf
    refine V_aload_n C dX3_letterHere_11 0 rfl ?_
    refine V_get (ci := 3) C okX_5_0 uX3 rfl 3 (Nat.le_of_ble_eq_true rfl) rfl rfl f15 dX3_letterHere_12 ?_
    refine V_aload_n C dX3_letterHere_15 0 rfl ?_
    refine V_get (ci := 3) C okX_5_0 uX3 rfl 4 (Nat.le_of_ble_eq_true rfl) rfl rfl f26 dX3_letterHere_16 ?_
    obtain ⟨hv2, hJ⟩ := hJ
    refine V_cald C okX_6_0 2 rfl rfl rfl hv2 dX3_letterHere_19 ?_
    refine V_goto C (tgt := 24) dX3_letterHere_20 rfl ?_
    exact V_iret C hr hlocks dX3_letterHere_24 hJ
set_option maxHeartbeats 4000000 in
set_option maxRecDepth 100000 in
theorem M_X3_isDigitHere (l : Launch) (D : va_G) (tc : Nat → ClassId) (ad : Oid → Nat) (A : Nat → Prop) {σ : Mem} {Qr : Int32 → Mem → Prop} (hJ : J_X3_isDigitHere σ Qr) : Met l yX3_isDigitHere wsX3_isDigitHere ({ frames := 1, cells := 0, slots := 0, locals := 20 }) (va_Pc [.ref (ad (5, 0, 0))] (WdI D vwCl (tysX tc) idsX ad (ceX tc ad) A σ)) (va_Qi (fun (r : Int32) (u : Mem) => Qr r u) (WdO D vwCl idsX ad (ceX tc ad) A) A) 0 0 A := by
  refine V_meti (cc := cX3_isDigitHere) (nL := 1) (ret := (some .boolean)) (own := RX3) rfl (plainFor_of_name (by decide)) rfl rfl (Nat.le_of_ble_eq_true rfl) ?_
  intro p e s m below meth c C hr hlocks
  refine V_sub (lv' := [(0, .ref (ad (5, 0, 0)))]) [0] rfl ?_
  unfold J_X3_isDigitHere at hJ
  refine V_aload_n C dX3_isDigitHere_0 0 rfl ?_
  refine V_cVi (st := []) (ci := 3) C okX_5_0 (M_X3_letterHere l D tc ad A  hJ) (cwV 0 C.1.2.2.2.2 gX3_isDigitHere_X3_letterHere rfl rfl rfl (by decide +kernel) ⟨Nat.le_of_ble_eq_true rfl, Nat.le_of_ble_eq_true rfl⟩) rfl rfl rfl rfl (Nat.le_of_ble_eq_true rfl) dX3_isDigitHere_1 (fun r1 τ1 hJ => ?_)
  refine V_bipush (v := 48) C dX3_isDigitHere_4 cb_48 ?_
  obtain ⟨hJt, hJf⟩ := hJ
  refine V_icmp_lt C (tgt := 22) dX3_isDigitHere_6 rfl (fun hc2 => ?_) (fun hc2 => ?_)
  · have hJ := hJt hc2; clear hJt hJf
    refine V_iconst (v := 0) C dX3_isDigitHere_22 ci_0 ?_
    exact V_zret C hr hlocks (Or.inl rfl) dX3_isDigitHere_23 hJ
  · have hJ := hJf hc2; clear hJt hJf
    refine V_aload_n C dX3_isDigitHere_9 0 rfl ?_
    refine V_cVi (st := []) (ci := 3) C okX_5_0 (M_X3_letterHere l D tc ad A  hJ) (cwV 0 C.1.2.2.2.2 gX3_isDigitHere_X3_letterHere rfl rfl rfl (by decide +kernel) ⟨Nat.le_of_ble_eq_true rfl, Nat.le_of_ble_eq_true rfl⟩) rfl rfl rfl rfl (Nat.le_of_ble_eq_true rfl) dX3_isDigitHere_10 (fun r3 τ3 hJ => ?_)
    refine V_bipush (v := 57) C dX3_isDigitHere_13 cb_57 ?_
    obtain ⟨hJt, hJf⟩ := hJ
    refine V_icmp_gt C (tgt := 22) dX3_isDigitHere_15 rfl (fun hc4 => ?_) (fun hc4 => ?_)
    · have hJ := hJt hc4; clear hJt hJf
      refine V_iconst (v := 0) C dX3_isDigitHere_22 ci_0 ?_
      exact V_zret C hr hlocks (Or.inl rfl) dX3_isDigitHere_23 hJ
    · have hJ := hJf hc4; clear hJt hJf
      refine V_iconst (v := 1) C dX3_isDigitHere_18 ci_1 ?_
      refine V_goto C (tgt := 23) dX3_isDigitHere_19 rfl ?_
      exact V_zret C hr hlocks (Or.inr rfl) dX3_isDigitHere_23 hJ
set_option maxHeartbeats 4000000 in
set_option maxRecDepth 100000 in
theorem M_X5_isWithin (l : Launch) (D : va_G) (tc : Nat → ClassId) (ad : Oid → Nat) (A : Nat → Prop) (x0 : Int32) (x1 : Int32) (x2 : Int32) {σ : Mem} {Qr : Int32 → Mem → Prop} (hJ : J_X5_isWithin x0 x1 x2 σ Qr) : Met l yX5_isWithin wsX5_isWithin ({ frames := 0, cells := 0, slots := 0, locals := 0 }) (va_Pc [.int x0, .int x1, .int x2] (WdI D vwCl (tysX tc) idsX ad (ceX tc ad) A σ)) (va_Qi (fun (r : Int32) (u : Mem) => Qr r u) (WdO D vwCl idsX ad (ceX tc ad) A) A) 0 0 A := by
  refine V_meti (cc := cX5_isWithin) (nL := 3) (ret := (some .boolean)) (own := RX5) rfl (plainFor_of_name (by decide)) rfl rfl (Nat.le_of_ble_eq_true rfl) ?_
  intro p e s m below meth c C hr hlocks
  refine V_sub (lv' := [(0, .int x0), (1, .int x1), (2, .int x2)]) [0, 1, 2] rfl ?_
  unfold J_X5_isWithin at hJ
  refine V_iload_n C dX5_isWithin_0 0 rfl ?_
  refine V_iload_n C dX5_isWithin_1 1 rfl ?_
  obtain ⟨hJt, hJf⟩ := hJ
  refine V_icmp_lt C (tgt := 14) dX5_isWithin_2 rfl (fun hc1 => ?_) (fun hc1 => ?_)
  · have hJ := hJt hc1; clear hJt hJf
    refine V_iconst (v := 0) C dX5_isWithin_14 ci_0 ?_
    exact V_zret C hr hlocks (Or.inl rfl) dX5_isWithin_15 hJ
  · have hJ := hJf hc1; clear hJt hJf
    refine V_iload_n C dX5_isWithin_5 0 rfl ?_
    refine V_iload_n C dX5_isWithin_6 2 rfl ?_
    obtain ⟨hJt, hJf⟩ := hJ
    refine V_icmp_gt C (tgt := 14) dX5_isWithin_7 rfl (fun hc2 => ?_) (fun hc2 => ?_)
    · have hJ := hJt hc2; clear hJt hJf
      refine V_iconst (v := 0) C dX5_isWithin_14 ci_0 ?_
      exact V_zret C hr hlocks (Or.inl rfl) dX5_isWithin_15 hJ
    · have hJ := hJf hc2; clear hJt hJf
      refine V_iconst (v := 1) C dX5_isWithin_10 ci_1 ?_
      refine V_goto C (tgt := 15) dX5_isWithin_11 rfl ?_
      exact V_zret C hr hlocks (Or.inr rfl) dX5_isWithin_15 hJ
set_option maxHeartbeats 4000000 in
set_option maxRecDepth 100000 in
theorem M_X3_number (l : Launch) (D : va_G) (tc : Nat → ClassId) (ad : Oid → Nat) (A : Nat → Prop) (x1 : Int32) (x2 : Int32) {σ : Mem} {Qr : Int32 → Mem → Prop} (hJ : J_X3_number x1 x2 σ Qr) : Met l yX3_number wsX3_number ({ frames := 2, cells := 0, slots := 0, locals := 40 }) (va_Pc [.ref (ad (5, 0, 0)), .int x1, .int x2] (WdI D vwCl (tysX tc) idsX ad (ceX tc ad) A σ)) (va_Qi (fun (r : Int32) (u : Mem) => Qr r u) (WdO D vwCl idsX ad (ceX tc ad) A) A) 0 0 A := by
  refine V_meti (cc := cX3_number) (nL := 6) (ret := (some .int)) (own := RX3) rfl (plainFor_of_name (by decide)) rfl rfl (Nat.le_of_ble_eq_true rfl) ?_
  intro p e s m below meth c C hr hlocks
  refine V_sub (lv' := [(0, .ref (ad (5, 0, 0))), (1, .int x1), (2, .int x2)]) [0, 1, 2] rfl ?_
  have f9 : Cond.fieldLink RX3 9 (TX3 1).1 (TX3 1).2.1 (TX3 1).2.2.1 ∈ wsX3_number := List.mem_of_getElem? (i := 1) rfl
  have uX3 : ∀ w ∈ u_ws RX3 TX3 5, w ∈ wsX3_number := by decide +kernel
  have f26 : Cond.fieldLink RX3 26 (TX3 4).1 (TX3 4).2.1 (TX3 4).2.2.1 ∈ wsX3_number := List.mem_of_getElem? (i := 2) rfl
  have f19 : Cond.fieldLink RX3 19 (TX3 0).1 (TX3 0).2.1 (TX3 0).2.2.1 ∈ wsX3_number := List.mem_of_getElem? (i := 3) rfl
  have f15 : Cond.fieldLink RX3 15 (TX3 3).1 (TX3 3).2.1 (TX3 3).2.2.1 ∈ wsX3_number := List.mem_of_getElem? (i := 8) rfl
  have B97 : ∀ (b1 : Int32) (b2 : Int32) (b3 : Int32) (b4 : Int32) (t0 : Int32) (τ : Mem), J_X3_number_b97 x1 x2  b1 b2 b3 b4 t0 τ Qr → VV p l e (headSpec wsX3_number ({ frames := 2, cells := 0, slots := 0, locals := 40 })).room s m ([.ref (ad (5, 0, 0)), .int x1, .int x2] : List Value).toArray below meth c D vwCl idsX ad (ceX tc ad) A (MQ below (va_Qi (fun (r : Int32) (u : Mem) => Qr r u) (WdO D vwCl idsX ad (ceX tc ad) A) A) ([.ref (ad (5, 0, 0)), .int x1, .int x2] : List Value).toArray s 0 0 A) 6 97 [(0, .ref (ad (5, 0, 0))), (1, .int b1), (2, .int b2), (3, .int b3), (4, .int b4)] [.int t0] τ := by
    intro b1 b2 b3 b4 t0 τ hJ
    unfold J_X3_number_b97 at hJ
    refine V_istore (lv' := [(5, .int t0), (0, .ref (ad (5, 0, 0))), (1, .int b1), (2, .int b2), (3, .int b3), (4, .int b4)]) C dX3_number_97 (by decide) rfl ?_
    refine V_aload_n C dX3_number_99 1 rfl ?_
    refine V_get (ci := 3) C okX_5_0 uX3 rfl 4 (Nat.le_of_ble_eq_true rfl) rfl rfl f26 dX3_number_100 ?_
    refine V_iload_n C dX3_number_103 4 rfl ?_
    obtain ⟨hJt, hJf⟩ := hJ
    refine V_icmp_eq C (tgt := 122) dX3_number_104 rfl (fun hc6 => ?_) (fun hc6 => ?_)
    · have hJ := hJt hc6; clear hJt hJf
      refine V_aload_n C dX3_number_122 1 rfl ?_
      refine V_iload_n C dX3_number_123 4 rfl ?_
      refine V_put (ci := 3) C okX_5_0 uX3 tyX3 tyX3_ok nmX3 rfl 1 (Nat.le_of_ble_eq_true rfl) rfl rfl f9 rfl (ty := .int) (by decide +kernel) rfl rfl (Nat.le_of_ble_eq_true rfl) dX3_number_124 (fun τ7 hτ7 => ?_)
      replace hJ := hJ τ7 hτ7
      refine V_iconst (v := 0) C dX3_number_127 ci_0 ?_
      exact V_iret C hr hlocks dX3_number_128 hJ
    · have hJ := hJf hc6; clear hJt hJf
      refine V_iload C dX3_number_107 0 rfl ?_
      obtain ⟨hJt, hJf⟩ := hJ
      refine V_if_ne C (tgt := 122) dX3_number_109 rfl (fun hc8 => ?_) (fun hc8 => ?_)
      · have hJ := hJt hc8; clear hJt hJf
        refine V_aload_n C dX3_number_122 1 rfl ?_
        refine V_iload_n C dX3_number_123 4 rfl ?_
        refine V_put (ci := 3) C okX_5_0 uX3 tyX3 tyX3_ok nmX3 rfl 1 (Nat.le_of_ble_eq_true rfl) rfl rfl f9 rfl (ty := .int) (by decide +kernel) rfl rfl (Nat.le_of_ble_eq_true rfl) dX3_number_124 (fun τ9 hτ9 => ?_)
        replace hJ := hJ τ9 hτ9
        refine V_iconst (v := 0) C dX3_number_127 ci_0 ?_
        exact V_iret C hr hlocks dX3_number_128 hJ
      · have hJ := hJf hc8; clear hJt hJf
        refine V_iload C dX3_number_112 5 rfl ?_
        refine V_iload_n C dX3_number_114 2 rfl ?_
        refine V_iload_n C dX3_number_115 3 rfl ?_
        refine V_cSNi (st := []) C (M_X5_isWithin l D tc ad A b4 b1 b2 hJ) ⟨va_cnB 3 C.1.2.2.2.2 gX3_number_X5_isWithin_n105 rfl rfl rfl C.2.2 (C.1.2.2.2.2 _ (List.mem_of_getElem? (i := 19) rfl)) (by decide +kernel) ⟨Nat.le_of_ble_eq_true rfl, Nat.le_of_ble_eq_true rfl⟩, (C.1.2.2.2.2 _ (List.mem_of_getElem? (i := 18) rfl)), trivial⟩ rfl rfl (Nat.le_of_ble_eq_true rfl) dX3_number_116 (fun r10 τ10 hJ => ?_)
        obtain ⟨hJt, hJf⟩ := hJ
        refine V_if_ne C (tgt := 129) dX3_number_119 rfl (fun hc11 => ?_) (fun hc11 => ?_)
        · have hJ := hJt hc11; clear hJt hJf
          refine V_iload C dX3_number_129 5 rfl ?_
          exact V_iret C hr hlocks dX3_number_131 hJ
        · have hJ := hJf hc11; clear hJt hJf
          refine V_aload_n C dX3_number_122 1 rfl ?_
          refine V_iload_n C dX3_number_123 4 rfl ?_
          refine V_put (ci := 3) C okX_5_0 uX3 tyX3 tyX3_ok nmX3 rfl 1 (Nat.le_of_ble_eq_true rfl) rfl rfl f9 rfl (ty := .int) (by decide +kernel) rfl rfl (Nat.le_of_ble_eq_true rfl) dX3_number_124 (fun τ12 hτ12 => ?_)
          replace hJ := hJ τ12 hτ12
          refine V_iconst (v := 0) C dX3_number_127 ci_0 ?_
          exact V_iret C hr hlocks dX3_number_128 hJ
  have B71 : ∀ (b1 : Int32) (b2 : Int32) (b3 : Int32) (b4 : Int32) (τ : Mem), J_X3_number_b71 x1 x2  b1 b2 b3 b4 τ Qr → VV p l e (headSpec wsX3_number ({ frames := 2, cells := 0, slots := 0, locals := 40 })).room s m ([.ref (ad (5, 0, 0)), .int x1, .int x2] : List Value).toArray below meth c D vwCl idsX ad (ceX tc ad) A (MQ below (va_Qi (fun (r : Int32) (u : Mem) => Qr r u) (WdO D vwCl idsX ad (ceX tc ad) A) A) ([.ref (ad (5, 0, 0)), .int x1, .int x2] : List Value).toArray s 0 0 A) 6 71 [(0, .ref (ad (5, 0, 0))), (1, .int b1), (2, .int b2), (3, .int b3), (4, .int b4)] [] τ := by
    intro b1 b2 b3 b4 τ hJ
    unfold J_X3_number_b71 at hJ
    refine V_aload_n C dX3_number_71 0 rfl ?_
    refine V_get (ci := 3) C okX_5_0 uX3 rfl 4 (Nat.le_of_ble_eq_true rfl) rfl rfl f26 dX3_number_72 ?_
    refine V_iload_n C dX3_number_75 3 rfl ?_
    refine V_iconst (v := 1) C dX3_number_76 ci_1 ?_
    refine V_iadd C dX3_number_77 ?_
    obtain ⟨hJt, hJf⟩ := hJ
    refine V_icmp_le C (tgt := 96) dX3_number_78 rfl (fun hc5 => ?_) (fun hc5 => ?_)
    · have hJ := hJt hc5; clear hJt hJf
      refine V_iconst (v := 0) C dX3_number_96 ci_0 ?_
      exact B97 b1 b2 b3 b4 0 τ hJ
    · have hJ := hJf hc5; clear hJt hJf
      refine V_aload_n C dX3_number_81 0 rfl ?_
      refine V_get (ci := 3) C okX_5_0 uX3 rfl 3 (Nat.le_of_ble_eq_true rfl) rfl rfl f15 dX3_number_82 ?_
      refine V_iload_n C dX3_number_85 3 rfl ?_
      obtain ⟨hv13, hJ⟩ := hJ
      refine V_cald C okX_6_0 2 rfl rfl rfl hv13 dX3_number_86 ?_
      refine V_bipush (v := 48) C dX3_number_87 cb_48 ?_
      obtain ⟨hJt, hJf⟩ := hJ
      refine V_icmp_ne C (tgt := 96) dX3_number_89 rfl (fun hc14 => ?_) (fun hc14 => ?_)
      · have hJ := hJt hc14; clear hJt hJf
        refine V_iconst (v := 0) C dX3_number_96 ci_0 ?_
        exact B97 b1 b2 b3 b4 0 τ hJ
      · have hJ := hJf hc14; clear hJt hJf
        refine V_iconst (v := 1) C dX3_number_92 ci_1 ?_
        refine V_goto C (tgt := 97) dX3_number_93 rfl ?_
        exact B97 b1 b2 b3 b4 1 τ hJ
  unfold J_X3_number at hJ
  refine V_aload_n C dX3_number_0 0 rfl ?_
  refine V_get (ci := 3) C okX_5_0 uX3 rfl 1 (Nat.le_of_ble_eq_true rfl) rfl rfl f9 dX3_number_1 ?_
  refine V_bipush (v := (-105)) C dX3_number_4 cb_m105 ?_
  obtain ⟨hJt, hJf⟩ := hJ
  refine V_icmp_eq C (tgt := 11) dX3_number_6 rfl (fun hc1 => ?_) (fun hc1 => ?_)
  · have hJ := hJt hc1; clear hJt hJf
    refine V_aload_n C dX3_number_11 0 rfl ?_
    refine V_get (ci := 3) C okX_5_0 uX3 rfl 4 (Nat.le_of_ble_eq_true rfl) rfl rfl f26 dX3_number_12 ?_
    refine V_topi (fun x3_2 hx3_2 => ?_)
    replace hJ := hJ x3_2 hx3_2
    refine V_istore_n (lv' := [(3, .int x3_2), (0, .ref (ad (5, 0, 0))), (1, .int x1), (2, .int x2)]) C dX3_number_15 (by decide) rfl ?_
    refine V_iconst (v := 0) C dX3_number_16 ci_0 ?_
    refine V_istore (lv' := [(4, .int 0), (3, .int x3_2), (0, .ref (ad (5, 0, 0))), (1, .int x1), (2, .int x2)]) C dX3_number_17 (by decide) rfl ?_
    refine V_sub (lv' := [(0, .ref (ad (5, 0, 0))), (1, .int x1), (2, .int x2), (3, .int x3_2), (4, .int 0)]) [2, 3, 4, 1, 0] rfl ?_
    obtain ⟨I19, μ19, hI19, hst19⟩ := hJ
    have L19 : ∀ (n : Nat) (x4_3 : Int32) (τ3 : Mem), μ19 x4_3 τ3 < n → I19 x4_3 τ3 → VV p l e (headSpec wsX3_number ({ frames := 2, cells := 0, slots := 0, locals := 40 })).room s m ([.ref (ad (5, 0, 0)), .int x1, .int x2] : List Value).toArray below meth c D vwCl idsX ad (ceX tc ad) A (MQ below (va_Qi (fun (r : Int32) (u : Mem) => Qr r u) (WdO D vwCl idsX ad (ceX tc ad) A) A) ([.ref (ad (5, 0, 0)), .int x1, .int x2] : List Value).toArray s 0 0 A) 6 19 [(0, .ref (ad (5, 0, 0))), (1, .int x1), (2, .int x2), (3, .int x3_2), (4, .int x4_3)] [] τ3 := by
      intro n
      induction n with
      | zero => intro x4_3 τ3 hμ _; exact absurd hμ (Nat.not_lt_zero _)
      | succ n ihn =>
        intro x4_3 τ3 hμ19 hJ
        have ih19 := ihn
        replace hJ := hst19 x4_3 τ3 hJ
        refine V_aload_n C dX3_number_19 0 rfl ?_
        refine V_get (ci := 3) C okX_5_0 uX3 rfl 4 (Nat.le_of_ble_eq_true rfl) rfl rfl f26 dX3_number_20 ?_
        refine V_aload_n C dX3_number_23 0 rfl ?_
        refine V_get (ci := 3) C okX_5_0 uX3 rfl 0 (Nat.le_of_ble_eq_true rfl) rfl rfl f19 dX3_number_24 ?_
        obtain ⟨hJt, hJf⟩ := hJ
        refine V_icmp_ge C (tgt := 71) dX3_number_27 rfl (fun hc4 => ?_) (fun hc4 => ?_)
        · have hJ := hJt hc4; clear hJt hJf
          exact B71 x1 x2 x3_2 x4_3 τ3 hJ
        · have hJ := hJf hc4; clear hJt hJf
          refine V_aload_n C dX3_number_30 0 rfl ?_
          refine V_cVi (st := []) (ci := 3) C okX_5_0 (M_X3_isDigitHere l D tc ad A  hJ) (cwV 0 C.1.2.2.2.2 gX3_number_X3_isDigitHere rfl rfl rfl (by decide +kernel) ⟨Nat.le_of_ble_eq_true rfl, Nat.le_of_ble_eq_true rfl⟩) rfl rfl rfl rfl (Nat.le_of_ble_eq_true rfl) dX3_number_31 (fun r15 τ15 hJ => ?_)
          obtain ⟨hJt, hJf⟩ := hJ
          refine V_if_eq C (tgt := 71) dX3_number_34 rfl (fun hc16 => ?_) (fun hc16 => ?_)
          · have hJ := hJt hc16; clear hJt hJf
            exact B71 x1 x2 x3_2 x4_3 τ15 hJ
          · have hJ := hJf hc16; clear hJt hJf
            refine V_bipush (v := 10) C dX3_number_37 cb_10 ?_
            refine V_iload C dX3_number_39 4 rfl ?_
            refine V_imul C dX3_number_41 ?_
            refine V_aload_n C dX3_number_42 0 rfl ?_
            refine V_cVi (st := [.int (10 * x4_3)]) (ci := 3) C okX_5_0 (M_X3_letterHere l D tc ad A  hJ) (cwV 0 C.1.2.2.2.2 gX3_number_X3_letterHere rfl rfl rfl (by decide +kernel) ⟨Nat.le_of_ble_eq_true rfl, Nat.le_of_ble_eq_true rfl⟩) rfl rfl rfl rfl (Nat.le_of_ble_eq_true rfl) dX3_number_43 (fun r17 τ17 hJ => ?_)
            refine V_iadd C dX3_number_46 ?_
            refine V_bipush (v := 48) C dX3_number_47 cb_48 ?_
            refine V_isub C dX3_number_49 ?_
            refine V_sipush (v := 10000) C dX3_number_50 cs_10000 ?_
            refine V_mmin C (List.mem_of_getElem? (i := 4) rfl) (List.mem_of_getElem? (i := 5) rfl) (List.mem_of_getElem? (i := 6) rfl) (List.mem_of_getElem? (i := 7) rfl) (Nat.le_of_ble_eq_true rfl) (Nat.le_of_ble_eq_true rfl) dX3_number_53 ?_
            refine V_topi (fun x4_18 hx4_18 => ?_)
            replace hJ := hJ x4_18 hx4_18
            refine V_istore (lv' := [(4, .int x4_18), (0, .ref (ad (5, 0, 0))), (1, .int x1), (2, .int x2), (3, .int x3_2)]) C dX3_number_56 (by decide) rfl ?_
            refine V_aload_n C dX3_number_58 1 rfl ?_
            refine V_dup C dX3_number_59 rfl ?_
            refine V_get (ci := 3) C okX_5_0 uX3 rfl 4 (Nat.le_of_ble_eq_true rfl) rfl rfl f26 dX3_number_60 ?_
            refine V_iconst (v := 1) C dX3_number_63 ci_1 ?_
            refine V_iadd C dX3_number_64 ?_
            refine V_put (ci := 3) C okX_5_0 uX3 tyX3 tyX3_ok nmX3 rfl 4 (Nat.le_of_ble_eq_true rfl) rfl rfl f26 rfl (ty := .int) (by decide +kernel) rfl rfl (Nat.le_of_ble_eq_true rfl) dX3_number_65 (fun τ19 hτ19 => ?_)
            replace hJ := hJ τ19 hτ19
            refine V_goto C (tgt := 19) dX3_number_68 rfl ?_
            refine V_sub (lv' := [(0, .ref (ad (5, 0, 0))), (1, .int x1), (2, .int x2), (3, .int x3_2), (4, .int x4_18)]) [1, 2, 3, 4, 0] rfl ?_
            exact ih19 x4_18 τ19 (Nat.lt_of_lt_of_le hJ.2 (Nat.le_of_lt_succ hμ19)) hJ.1
    exact L19 _ 0 σ (Nat.lt_succ_self _) hI19
  · have hJ := hJf hc1; clear hJt hJf
    refine V_iconst (v := 0) C dX3_number_9 ci_0 ?_
    exact V_iret C hr hlocks dX3_number_10 hJ
set_option maxHeartbeats 4000000 in
set_option maxRecDepth 100000 in
theorem M_X3_pass (l : Launch) (D : va_G) (tc : Nat → ClassId) (ad : Oid → Nat) (A : Nat → Prop) (x1 : Int32) {σ : Mem} {Qr : Mem → Prop} (hJ : J_X3_pass x1 σ Qr) : Met l yX3_pass wsX3_pass ({ frames := 1, cells := 0, slots := 0, locals := 20 }) (va_Pc [.ref (ad (5, 0, 0)), .int x1] (WdI D vwCl (tysX tc) idsX ad (ceX tc ad) A σ)) (va_Qv (fun (u : Mem) => Qr u) (WdO D vwCl idsX ad (ceX tc ad) A) A) 0 0 A := by
  refine V_metv (cc := cX3_pass) (nL := 2) (ret := none) (own := RX3) rfl (plainFor_of_name (by decide)) rfl rfl (Nat.le_of_ble_eq_true rfl) ?_
  intro p e s m below meth c C hr hlocks
  refine V_sub (lv' := [(0, .ref (ad (5, 0, 0))), (1, .int x1)]) [0, 1] rfl ?_
  have f9 : Cond.fieldLink RX3 9 (TX3 1).1 (TX3 1).2.1 (TX3 1).2.2.1 ∈ wsX3_pass := List.mem_of_getElem? (i := 1) rfl
  have uX3 : ∀ w ∈ u_ws RX3 TX3 5, w ∈ wsX3_pass := by decide +kernel
  have f26 : Cond.fieldLink RX3 26 (TX3 4).1 (TX3 4).2.1 (TX3 4).2.2.1 ∈ wsX3_pass := List.mem_of_getElem? (i := 2) rfl
  unfold J_X3_pass at hJ
  refine V_aload_n C dX3_pass_0 0 rfl ?_
  refine V_get (ci := 3) C okX_5_0 uX3 rfl 1 (Nat.le_of_ble_eq_true rfl) rfl rfl f9 dX3_pass_1 ?_
  refine V_bipush (v := (-105)) C dX3_pass_4 cb_m105 ?_
  obtain ⟨hJt, hJf⟩ := hJ
  refine V_icmp_eq C (tgt := 10) dX3_pass_6 rfl (fun hc1 => ?_) (fun hc1 => ?_)
  · have hJ := hJt hc1; clear hJt hJf
    refine V_aload_n C dX3_pass_10 0 rfl ?_
    refine V_cVi (st := []) (ci := 3) C okX_5_0 (M_X3_letterHere l D tc ad A  hJ) (cwV 0 C.1.2.2.2.2 gX3_pass_X3_letterHere rfl rfl rfl (by decide +kernel) ⟨Nat.le_of_ble_eq_true rfl, Nat.le_of_ble_eq_true rfl⟩) rfl rfl rfl rfl (Nat.le_of_ble_eq_true rfl) dX3_pass_11 (fun r2 τ2 hJ => ?_)
    refine V_iload_n C dX3_pass_14 1 rfl ?_
    obtain ⟨hJt, hJf⟩ := hJ
    refine V_icmp_ne C (tgt := 31) dX3_pass_15 rfl (fun hc3 => ?_) (fun hc3 => ?_)
    · have hJ := hJt hc3; clear hJt hJf
      refine V_aload_n C dX3_pass_31 0 rfl ?_
      refine V_aload_n C dX3_pass_32 0 rfl ?_
      refine V_get (ci := 3) C okX_5_0 uX3 rfl 4 (Nat.le_of_ble_eq_true rfl) rfl rfl f26 dX3_pass_33 ?_
      refine V_put (ci := 3) C okX_5_0 uX3 tyX3 tyX3_ok nmX3 rfl 1 (Nat.le_of_ble_eq_true rfl) rfl rfl f9 rfl (ty := .int) (by decide +kernel) rfl rfl (Nat.le_of_ble_eq_true rfl) dX3_pass_36 (fun τ4 hτ4 => ?_)
      replace hJ := hJ τ4 hτ4
      exact V_vret C hr hlocks dX3_pass_39 hJ
    · have hJ := hJf hc3; clear hJt hJf
      refine V_aload_n C dX3_pass_18 0 rfl ?_
      refine V_dup C dX3_pass_19 rfl ?_
      refine V_get (ci := 3) C okX_5_0 uX3 rfl 4 (Nat.le_of_ble_eq_true rfl) rfl rfl f26 dX3_pass_20 ?_
      refine V_iconst (v := 1) C dX3_pass_23 ci_1 ?_
      refine V_iadd C dX3_pass_24 ?_
      refine V_put (ci := 3) C okX_5_0 uX3 tyX3 tyX3_ok nmX3 rfl 4 (Nat.le_of_ble_eq_true rfl) rfl rfl f26 rfl (ty := .int) (by decide +kernel) rfl rfl (Nat.le_of_ble_eq_true rfl) dX3_pass_25 (fun τ5 hτ5 => ?_)
      replace hJ := hJ τ5 hτ5
      refine V_goto C (tgt := 39) dX3_pass_28 rfl ?_
      exact V_vret C hr hlocks dX3_pass_39 hJ
  · have hJ := hJf hc1; clear hJt hJf
    exact V_vret C hr hlocks dX3_pass_9 hJ
set_option maxHeartbeats 4000000 in
set_option maxRecDepth 100000 in
theorem M_X3_addDitchTo (l : Launch) (D : va_G) (tc : Nat → ClassId) (ad : Oid → Nat) (A : Nat → Prop) (j1 : Nat) (hj1 : j1 < 4) {σ : Mem} {Qr : Mem → Prop} (hJ : J_X3_addDitchTo j1 σ Qr) : Met l yX3_addDitchTo wsX3_addDitchTo ({ frames := 3, cells := 0, slots := 0, locals := 65 }) (va_Pc [.ref (ad (5, 0, 0)), .ref (ad (7, j1, 0))] (WdI D vwCl (tysX tc) idsX ad (ceX tc ad) A σ)) (va_Qv (fun (u : Mem) => Qr u) (WdO D vwCl idsX ad (ceX tc ad) A) A) 0 0 A := by
  refine V_metv (cc := cX3_addDitchTo) (nL := 5) (ret := none) (own := RX3) rfl (plainFor_of_name (by decide)) rfl rfl (Nat.le_of_ble_eq_true rfl) ?_
  intro p e s m below meth c C hr hlocks
  refine V_sub (lv' := [(0, .ref (ad (5, 0, 0))), (1, .ref (ad (7, j1, 0)))]) [0, 1] rfl ?_
  have f26 : Cond.fieldLink RX3 26 (TX3 4).1 (TX3 4).2.1 (TX3 4).2.2.1 ∈ wsX3_addDitchTo := List.mem_of_getElem? (i := 1) rfl
  have uX3 : ∀ w ∈ u_ws RX3 TX3 5, w ∈ wsX3_addDitchTo := by decide +kernel
  have f57 : Cond.fieldLink RX3 57 (TX2 5).1 (TX2 5).2.1 (TX2 5).2.2.1 ∈ wsX3_addDitchTo := List.mem_of_getElem? (i := 3) rfl
  have uX2 : ∀ w ∈ u_ws RX2 TX2 10, w ∈ wsX3_addDitchTo := by decide +kernel
  have f9 : Cond.fieldLink RX3 9 (TX3 1).1 (TX3 1).2.1 (TX3 1).2.2.1 ∈ wsX3_addDitchTo := List.mem_of_getElem? (i := 2) rfl
  have B15 : ∀ (τ : Mem), J_X3_addDitchTo_b15 j1  τ Qr → VV p l e (headSpec wsX3_addDitchTo ({ frames := 3, cells := 0, slots := 0, locals := 65 })).room s m ([.ref (ad (5, 0, 0)), .ref (ad (7, j1, 0))] : List Value).toArray below meth c D vwCl idsX ad (ceX tc ad) A (MQ below (va_Qv (fun (u : Mem) => Qr u) (WdO D vwCl idsX ad (ceX tc ad) A) A) ([.ref (ad (5, 0, 0)), .ref (ad (7, j1, 0))] : List Value).toArray s 0 0 A) 5 15 [(0, .ref (ad (5, 0, 0))), (1, .ref (ad (7, j1, 0)))] [] τ := by
    intro τ hJ
    unfold J_X3_addDitchTo_b15 at hJ
    refine V_aload_n C dX3_addDitchTo_15 0 rfl ?_
    refine V_dup C dX3_addDitchTo_16 rfl ?_
    refine V_get (ci := 3) C okX_5_0 uX3 rfl 4 (Nat.le_of_ble_eq_true rfl) rfl rfl f26 dX3_addDitchTo_17 ?_
    refine V_iconst (v := 1) C dX3_addDitchTo_20 ci_1 ?_
    refine V_iadd C dX3_addDitchTo_21 ?_
    refine V_put (ci := 3) C okX_5_0 uX3 tyX3 tyX3_ok nmX3 rfl 4 (Nat.le_of_ble_eq_true rfl) rfl rfl f26 rfl (ty := .int) (by decide +kernel) rfl rfl (Nat.le_of_ble_eq_true rfl) dX3_addDitchTo_22 (fun τ3 hτ3 => ?_)
    replace hJ := hJ τ3 hτ3
    refine V_aload_n C dX3_addDitchTo_25 0 rfl ?_
    refine V_iconst (v := 0) C dX3_addDitchTo_26 ci_0 ?_
    refine V_aload_n C dX3_addDitchTo_27 1 rfl ?_
    refine V_get (ci := 2) C (ok7 hj1) uX2 rfl 5 (Nat.le_of_ble_eq_true rfl) rfl rfl f57 dX3_addDitchTo_28 ?_
    refine V_iconst (v := 1) C dX3_addDitchTo_31 ci_1 ?_
    refine V_isub C dX3_addDitchTo_32 ?_
    refine V_cVi (st := []) (ci := 3) C okX_5_0 (M_X3_number l D tc ad A 0 ((τ3 (7, j1, 0) 5) - 1) hJ) (cwV 2 C.1.2.2.2.2 gX3_addDitchTo_X3_number rfl rfl rfl (by decide +kernel) ⟨Nat.le_of_ble_eq_true rfl, Nat.le_of_ble_eq_true rfl⟩) rfl rfl rfl rfl (Nat.le_of_ble_eq_true rfl) dX3_addDitchTo_33 (fun r4 τ4 hJ => ?_)
    refine V_istore_n (lv' := [(2, .int r4), (0, .ref (ad (5, 0, 0))), (1, .ref (ad (7, j1, 0)))]) C dX3_addDitchTo_36 (by decide) rfl ?_
    refine V_aload_n C dX3_addDitchTo_37 1 rfl ?_
    refine V_bipush (v := 46) C dX3_addDitchTo_38 cb_46 ?_
    refine V_cVv (st := []) (ci := 3) C okX_5_0 (M_X3_pass l D tc ad A 46 hJ) (cwV 1 C.1.2.2.2.2 gX3_addDitchTo_X3_pass rfl rfl rfl (by decide +kernel) ⟨Nat.le_of_ble_eq_true rfl, Nat.le_of_ble_eq_true rfl⟩) rfl rfl rfl rfl (Nat.le_of_ble_eq_true rfl) dX3_addDitchTo_40 (fun τ5 hJ => ?_)
    refine V_aload_n C dX3_addDitchTo_43 1 rfl ?_
    refine V_iconst (v := 1) C dX3_addDitchTo_44 ci_1 ?_
    refine V_sipush (v := 200) C dX3_addDitchTo_45 cs_200 ?_
    refine V_cVi (st := []) (ci := 3) C okX_5_0 (M_X3_number l D tc ad A 1 200 hJ) (cwV 2 C.1.2.2.2.2 gX3_addDitchTo_X3_number rfl rfl rfl (by decide +kernel) ⟨Nat.le_of_ble_eq_true rfl, Nat.le_of_ble_eq_true rfl⟩) rfl rfl rfl rfl (Nat.le_of_ble_eq_true rfl) dX3_addDitchTo_48 (fun r6 τ6 hJ => ?_)
    refine V_istore_n (lv' := [(3, .int r6), (2, .int r4), (0, .ref (ad (5, 0, 0))), (1, .ref (ad (7, j1, 0)))]) C dX3_addDitchTo_51 (by decide) rfl ?_
    refine V_aload_n C dX3_addDitchTo_52 2 rfl ?_
    refine V_bipush (v := 46) C dX3_addDitchTo_53 cb_46 ?_
    refine V_cVv (st := []) (ci := 3) C okX_5_0 (M_X3_pass l D tc ad A 46 hJ) (cwV 1 C.1.2.2.2.2 gX3_addDitchTo_X3_pass rfl rfl rfl (by decide +kernel) ⟨Nat.le_of_ble_eq_true rfl, Nat.le_of_ble_eq_true rfl⟩) rfl rfl rfl rfl (Nat.le_of_ble_eq_true rfl) dX3_addDitchTo_55 (fun τ7 hJ => ?_)
    refine V_aload_n C dX3_addDitchTo_58 2 rfl ?_
    refine V_iconst (v := 0) C dX3_addDitchTo_59 ci_0 ?_
    refine V_bipush (v := 50) C dX3_addDitchTo_60 cb_50 ?_
    refine V_cVi (st := []) (ci := 3) C okX_5_0 (M_X3_number l D tc ad A 0 50 hJ) (cwV 2 C.1.2.2.2.2 gX3_addDitchTo_X3_number rfl rfl rfl (by decide +kernel) ⟨Nat.le_of_ble_eq_true rfl, Nat.le_of_ble_eq_true rfl⟩) rfl rfl rfl rfl (Nat.le_of_ble_eq_true rfl) dX3_addDitchTo_62 (fun r8 τ8 hJ => ?_)
    refine V_istore (lv' := [(4, .int r8), (3, .int r6), (2, .int r4), (0, .ref (ad (5, 0, 0))), (1, .ref (ad (7, j1, 0)))]) C dX3_addDitchTo_65 (by decide) rfl ?_
    refine V_aload_n C dX3_addDitchTo_67 3 rfl ?_
    refine V_bipush (v := 59) C dX3_addDitchTo_68 cb_59 ?_
    refine V_cVv (st := []) (ci := 3) C okX_5_0 (M_X3_pass l D tc ad A 59 hJ) (cwV 1 C.1.2.2.2.2 gX3_addDitchTo_X3_pass rfl rfl rfl (by decide +kernel) ⟨Nat.le_of_ble_eq_true rfl, Nat.le_of_ble_eq_true rfl⟩) rfl rfl rfl rfl (Nat.le_of_ble_eq_true rfl) dX3_addDitchTo_70 (fun τ9 hJ => ?_)
    refine V_aload_n C dX3_addDitchTo_73 3 rfl ?_
    refine V_get (ci := 3) C okX_5_0 uX3 rfl 1 (Nat.le_of_ble_eq_true rfl) rfl rfl f9 dX3_addDitchTo_74 ?_
    refine V_bipush (v := (-105)) C dX3_addDitchTo_77 cb_m105 ?_
    obtain ⟨hJt, hJf⟩ := hJ
    refine V_icmp_ne C (tgt := 90) dX3_addDitchTo_79 rfl (fun hc10 => ?_) (fun hc10 => ?_)
    · have hJ := hJt hc10; clear hJt hJf
      exact V_vret C hr hlocks dX3_addDitchTo_90 hJ
    · have hJ := hJf hc10; clear hJt hJf
      refine V_aload_n C dX3_addDitchTo_82 4 rfl ?_
      refine V_iload_n C dX3_addDitchTo_83 2 rfl ?_
      refine V_iload_n C dX3_addDitchTo_84 1 rfl ?_
      refine V_iload C dX3_addDitchTo_85 0 rfl ?_
      refine V_cVv (st := []) (ci := 2) C (ok7 hj1) (M_X2_putDitch l D tc ad A j1 hj1 r4 r6 r8 hJ) (cwV 3 C.1.2.2.2.2 gX3_addDitchTo_X2_putDitch rfl rfl rfl (by decide +kernel) ⟨Nat.le_of_ble_eq_true rfl, Nat.le_of_ble_eq_true rfl⟩) rfl rfl rfl rfl (Nat.le_of_ble_eq_true rfl) dX3_addDitchTo_87 (fun τ11 hJ => ?_)
      exact V_vret C hr hlocks dX3_addDitchTo_90 hJ
  unfold J_X3_addDitchTo at hJ
  refine V_aload_n C dX3_addDitchTo_0 1 rfl ?_
  refine V_cVi (st := []) (ci := 2) C (ok7 hj1) (M_X2_hasRoomForDitch l D tc ad A j1 hj1 hJ) (cwV 0 C.1.2.2.2.2 gX3_addDitchTo_X2_hasRoomForDitch rfl rfl rfl (by decide +kernel) ⟨Nat.le_of_ble_eq_true rfl, Nat.le_of_ble_eq_true rfl⟩) rfl rfl rfl rfl (Nat.le_of_ble_eq_true rfl) dX3_addDitchTo_1 (fun r1 τ1 hJ => ?_)
  obtain ⟨hJt, hJf⟩ := hJ
  refine V_if_ne C (tgt := 15) dX3_addDitchTo_4 rfl (fun hc2 => ?_) (fun hc2 => ?_)
  · have hJ := hJt hc2; clear hJt hJf
    exact B15 τ1 hJ
  · have hJ := hJf hc2; clear hJt hJf
    refine V_aload_n C dX3_addDitchTo_7 0 rfl ?_
    refine V_aload_n C dX3_addDitchTo_8 0 rfl ?_
    refine V_get (ci := 3) C okX_5_0 uX3 rfl 4 (Nat.le_of_ble_eq_true rfl) rfl rfl f26 dX3_addDitchTo_9 ?_
    refine V_put (ci := 3) C okX_5_0 uX3 tyX3 tyX3_ok nmX3 rfl 1 (Nat.le_of_ble_eq_true rfl) rfl rfl f9 rfl (ty := .int) (by decide +kernel) rfl rfl (Nat.le_of_ble_eq_true rfl) dX3_addDitchTo_12 (fun τ12 hτ12 => ?_)
    replace hJ := hJ τ12 hτ12
    exact B15 τ12 hJ
set_option maxHeartbeats 4000000 in
set_option maxRecDepth 100000 in
theorem M_X3_addUserTo (l : Launch) (D : va_G) (tc : Nat → ClassId) (ad : Oid → Nat) (A : Nat → Prop) (j1 : Nat) (hj1 : j1 < 4) {σ : Mem} {Qr : Mem → Prop} (hJ : J_X3_addUserTo j1 σ Qr) : Met l yX3_addUserTo wsX3_addUserTo ({ frames := 3, cells := 0, slots := 0, locals := 65 }) (va_Pc [.ref (ad (5, 0, 0)), .ref (ad (7, j1, 0))] (WdI D vwCl (tysX tc) idsX ad (ceX tc ad) A σ)) (va_Qv (fun (u : Mem) => Qr u) (WdO D vwCl idsX ad (ceX tc ad) A) A) 0 0 A := by
  refine V_metv (cc := cX3_addUserTo) (nL := 5) (ret := none) (own := RX3) rfl (plainFor_of_name (by decide)) rfl rfl (Nat.le_of_ble_eq_true rfl) ?_
  intro p e s m below meth c C hr hlocks
  refine V_sub (lv' := [(0, .ref (ad (5, 0, 0))), (1, .ref (ad (7, j1, 0)))]) [0, 1] rfl ?_
  have f26 : Cond.fieldLink RX3 26 (TX3 4).1 (TX3 4).2.1 (TX3 4).2.2.1 ∈ wsX3_addUserTo := List.mem_of_getElem? (i := 1) rfl
  have uX3 : ∀ w ∈ u_ws RX3 TX3 5, w ∈ wsX3_addUserTo := by decide +kernel
  have f57 : Cond.fieldLink RX3 57 (TX2 5).1 (TX2 5).2.1 (TX2 5).2.2.1 ∈ wsX3_addUserTo := List.mem_of_getElem? (i := 3) rfl
  have uX2 : ∀ w ∈ u_ws RX2 TX2 10, w ∈ wsX3_addUserTo := by decide +kernel
  have f9 : Cond.fieldLink RX3 9 (TX3 1).1 (TX3 1).2.1 (TX3 1).2.2.1 ∈ wsX3_addUserTo := List.mem_of_getElem? (i := 2) rfl
  have B15 : ∀ (τ : Mem), J_X3_addUserTo_b15 j1  τ Qr → VV p l e (headSpec wsX3_addUserTo ({ frames := 3, cells := 0, slots := 0, locals := 65 })).room s m ([.ref (ad (5, 0, 0)), .ref (ad (7, j1, 0))] : List Value).toArray below meth c D vwCl idsX ad (ceX tc ad) A (MQ below (va_Qv (fun (u : Mem) => Qr u) (WdO D vwCl idsX ad (ceX tc ad) A) A) ([.ref (ad (5, 0, 0)), .ref (ad (7, j1, 0))] : List Value).toArray s 0 0 A) 5 15 [(0, .ref (ad (5, 0, 0))), (1, .ref (ad (7, j1, 0)))] [] τ := by
    intro τ hJ
    unfold J_X3_addUserTo_b15 at hJ
    refine V_aload_n C dX3_addUserTo_15 0 rfl ?_
    refine V_dup C dX3_addUserTo_16 rfl ?_
    refine V_get (ci := 3) C okX_5_0 uX3 rfl 4 (Nat.le_of_ble_eq_true rfl) rfl rfl f26 dX3_addUserTo_17 ?_
    refine V_iconst (v := 1) C dX3_addUserTo_20 ci_1 ?_
    refine V_iadd C dX3_addUserTo_21 ?_
    refine V_put (ci := 3) C okX_5_0 uX3 tyX3 tyX3_ok nmX3 rfl 4 (Nat.le_of_ble_eq_true rfl) rfl rfl f26 rfl (ty := .int) (by decide +kernel) rfl rfl (Nat.le_of_ble_eq_true rfl) dX3_addUserTo_22 (fun τ3 hτ3 => ?_)
    replace hJ := hJ τ3 hτ3
    refine V_aload_n C dX3_addUserTo_25 0 rfl ?_
    refine V_iconst (v := 0) C dX3_addUserTo_26 ci_0 ?_
    refine V_aload_n C dX3_addUserTo_27 1 rfl ?_
    refine V_get (ci := 2) C (ok7 hj1) uX2 rfl 5 (Nat.le_of_ble_eq_true rfl) rfl rfl f57 dX3_addUserTo_28 ?_
    refine V_iconst (v := 1) C dX3_addUserTo_31 ci_1 ?_
    refine V_isub C dX3_addUserTo_32 ?_
    refine V_cVi (st := []) (ci := 3) C okX_5_0 (M_X3_number l D tc ad A 0 ((τ3 (7, j1, 0) 5) - 1) hJ) (cwV 2 C.1.2.2.2.2 gX3_addUserTo_X3_number rfl rfl rfl (by decide +kernel) ⟨Nat.le_of_ble_eq_true rfl, Nat.le_of_ble_eq_true rfl⟩) rfl rfl rfl rfl (Nat.le_of_ble_eq_true rfl) dX3_addUserTo_33 (fun r4 τ4 hJ => ?_)
    refine V_istore_n (lv' := [(2, .int r4), (0, .ref (ad (5, 0, 0))), (1, .ref (ad (7, j1, 0)))]) C dX3_addUserTo_36 (by decide) rfl ?_
    refine V_aload_n C dX3_addUserTo_37 1 rfl ?_
    refine V_bipush (v := 46) C dX3_addUserTo_38 cb_46 ?_
    refine V_cVv (st := []) (ci := 3) C okX_5_0 (M_X3_pass l D tc ad A 46 hJ) (cwV 1 C.1.2.2.2.2 gX3_addUserTo_X3_pass rfl rfl rfl (by decide +kernel) ⟨Nat.le_of_ble_eq_true rfl, Nat.le_of_ble_eq_true rfl⟩) rfl rfl rfl rfl (Nat.le_of_ble_eq_true rfl) dX3_addUserTo_40 (fun τ5 hJ => ?_)
    refine V_aload_n C dX3_addUserTo_43 1 rfl ?_
    refine V_sipush (v := 1800) C dX3_addUserTo_44 cs_1800 ?_
    refine V_sipush (v := 2099) C dX3_addUserTo_47 cs_2099 ?_
    refine V_cVi (st := []) (ci := 3) C okX_5_0 (M_X3_number l D tc ad A 1800 2099 hJ) (cwV 2 C.1.2.2.2.2 gX3_addUserTo_X3_number rfl rfl rfl (by decide +kernel) ⟨Nat.le_of_ble_eq_true rfl, Nat.le_of_ble_eq_true rfl⟩) rfl rfl rfl rfl (Nat.le_of_ble_eq_true rfl) dX3_addUserTo_50 (fun r6 τ6 hJ => ?_)
    refine V_istore_n (lv' := [(3, .int r6), (2, .int r4), (0, .ref (ad (5, 0, 0))), (1, .ref (ad (7, j1, 0)))]) C dX3_addUserTo_53 (by decide) rfl ?_
    refine V_aload_n C dX3_addUserTo_54 2 rfl ?_
    refine V_bipush (v := 46) C dX3_addUserTo_55 cb_46 ?_
    refine V_cVv (st := []) (ci := 3) C okX_5_0 (M_X3_pass l D tc ad A 46 hJ) (cwV 1 C.1.2.2.2.2 gX3_addUserTo_X3_pass rfl rfl rfl (by decide +kernel) ⟨Nat.le_of_ble_eq_true rfl, Nat.le_of_ble_eq_true rfl⟩) rfl rfl rfl rfl (Nat.le_of_ble_eq_true rfl) dX3_addUserTo_57 (fun τ7 hJ => ?_)
    refine V_aload_n C dX3_addUserTo_60 2 rfl ?_
    refine V_iconst (v := 0) C dX3_addUserTo_61 ci_0 ?_
    refine V_bipush (v := 60) C dX3_addUserTo_62 cb_60 ?_
    refine V_cVi (st := []) (ci := 3) C okX_5_0 (M_X3_number l D tc ad A 0 60 hJ) (cwV 2 C.1.2.2.2.2 gX3_addUserTo_X3_number rfl rfl rfl (by decide +kernel) ⟨Nat.le_of_ble_eq_true rfl, Nat.le_of_ble_eq_true rfl⟩) rfl rfl rfl rfl (Nat.le_of_ble_eq_true rfl) dX3_addUserTo_64 (fun r8 τ8 hJ => ?_)
    refine V_istore (lv' := [(4, .int r8), (3, .int r6), (2, .int r4), (0, .ref (ad (5, 0, 0))), (1, .ref (ad (7, j1, 0)))]) C dX3_addUserTo_67 (by decide) rfl ?_
    refine V_aload_n C dX3_addUserTo_69 3 rfl ?_
    refine V_bipush (v := 59) C dX3_addUserTo_70 cb_59 ?_
    refine V_cVv (st := []) (ci := 3) C okX_5_0 (M_X3_pass l D tc ad A 59 hJ) (cwV 1 C.1.2.2.2.2 gX3_addUserTo_X3_pass rfl rfl rfl (by decide +kernel) ⟨Nat.le_of_ble_eq_true rfl, Nat.le_of_ble_eq_true rfl⟩) rfl rfl rfl rfl (Nat.le_of_ble_eq_true rfl) dX3_addUserTo_72 (fun τ9 hJ => ?_)
    refine V_aload_n C dX3_addUserTo_75 3 rfl ?_
    refine V_get (ci := 3) C okX_5_0 uX3 rfl 1 (Nat.le_of_ble_eq_true rfl) rfl rfl f9 dX3_addUserTo_76 ?_
    refine V_bipush (v := (-105)) C dX3_addUserTo_79 cb_m105 ?_
    obtain ⟨hJt, hJf⟩ := hJ
    refine V_icmp_ne C (tgt := 92) dX3_addUserTo_81 rfl (fun hc10 => ?_) (fun hc10 => ?_)
    · have hJ := hJt hc10; clear hJt hJf
      exact V_vret C hr hlocks dX3_addUserTo_92 hJ
    · have hJ := hJf hc10; clear hJt hJf
      refine V_aload_n C dX3_addUserTo_84 4 rfl ?_
      refine V_iload_n C dX3_addUserTo_85 2 rfl ?_
      refine V_iload_n C dX3_addUserTo_86 1 rfl ?_
      refine V_iload C dX3_addUserTo_87 0 rfl ?_
      refine V_cVv (st := []) (ci := 2) C (ok7 hj1) (M_X2_putUser l D tc ad A j1 hj1 r4 r6 r8 hJ) (cwV 3 C.1.2.2.2.2 gX3_addUserTo_X2_putUser rfl rfl rfl (by decide +kernel) ⟨Nat.le_of_ble_eq_true rfl, Nat.le_of_ble_eq_true rfl⟩) rfl rfl rfl rfl (Nat.le_of_ble_eq_true rfl) dX3_addUserTo_89 (fun τ11 hJ => ?_)
      exact V_vret C hr hlocks dX3_addUserTo_92 hJ
  unfold J_X3_addUserTo at hJ
  refine V_aload_n C dX3_addUserTo_0 1 rfl ?_
  refine V_cVi (st := []) (ci := 2) C (ok7 hj1) (M_X2_hasRoomForUser l D tc ad A j1 hj1 hJ) (cwV 0 C.1.2.2.2.2 gX3_addUserTo_X2_hasRoomForUser rfl rfl rfl (by decide +kernel) ⟨Nat.le_of_ble_eq_true rfl, Nat.le_of_ble_eq_true rfl⟩) rfl rfl rfl rfl (Nat.le_of_ble_eq_true rfl) dX3_addUserTo_1 (fun r1 τ1 hJ => ?_)
  obtain ⟨hJt, hJf⟩ := hJ
  refine V_if_ne C (tgt := 15) dX3_addUserTo_4 rfl (fun hc2 => ?_) (fun hc2 => ?_)
  · have hJ := hJt hc2; clear hJt hJf
    exact B15 τ1 hJ
  · have hJ := hJf hc2; clear hJt hJf
    refine V_aload_n C dX3_addUserTo_7 0 rfl ?_
    refine V_aload_n C dX3_addUserTo_8 0 rfl ?_
    refine V_get (ci := 3) C okX_5_0 uX3 rfl 4 (Nat.le_of_ble_eq_true rfl) rfl rfl f26 dX3_addUserTo_9 ?_
    refine V_put (ci := 3) C okX_5_0 uX3 tyX3 tyX3_ok nmX3 rfl 1 (Nat.le_of_ble_eq_true rfl) rfl rfl f9 rfl (ty := .int) (by decide +kernel) rfl rfl (Nat.le_of_ble_eq_true rfl) dX3_addUserTo_12 (fun τ12 hτ12 => ?_)
    replace hJ := hJ τ12 hτ12
    exact B15 τ12 hJ
set_option maxHeartbeats 4000000 in
set_option maxRecDepth 100000 in
theorem M_X3_setTurnIn (l : Launch) (D : va_G) (tc : Nat → ClassId) (ad : Oid → Nat) (A : Nat → Prop) (j1 : Nat) (hj1 : j1 < 4) {σ : Mem} {Qr : Mem → Prop} (hJ : J_X3_setTurnIn j1 σ Qr) : Met l yX3_setTurnIn wsX3_setTurnIn ({ frames := 3, cells := 0, slots := 0, locals := 65 }) (va_Pc [.ref (ad (5, 0, 0)), .ref (ad (7, j1, 0))] (WdI D vwCl (tysX tc) idsX ad (ceX tc ad) A σ)) (va_Qv (fun (u : Mem) => Qr u) (WdO D vwCl idsX ad (ceX tc ad) A) A) 0 0 A := by
  refine V_metv (cc := cX3_setTurnIn) (nL := 4) (ret := none) (own := RX3) rfl (plainFor_of_name (by decide)) rfl rfl (Nat.le_of_ble_eq_true rfl) ?_
  intro p e s m below meth c C hr hlocks
  refine V_sub (lv' := [(0, .ref (ad (5, 0, 0))), (1, .ref (ad (7, j1, 0)))]) [0, 1] rfl ?_
  have f26 : Cond.fieldLink RX3 26 (TX3 4).1 (TX3 4).2.1 (TX3 4).2.2.1 ∈ wsX3_setTurnIn := List.mem_of_getElem? (i := 1) rfl
  have uX3 : ∀ w ∈ u_ws RX3 TX3 5, w ∈ wsX3_setTurnIn := by decide +kernel
  have f78 : Cond.fieldLink RX3 78 (TX2 6).1 (TX2 6).2.1 (TX2 6).2.2.1 ∈ wsX3_setTurnIn := List.mem_of_getElem? (i := 2) rfl
  have uX2 : ∀ w ∈ u_ws RX2 TX2 10, w ∈ wsX3_setTurnIn := by decide +kernel
  have f9 : Cond.fieldLink RX3 9 (TX3 1).1 (TX3 1).2.1 (TX3 1).2.2.1 ∈ wsX3_setTurnIn := List.mem_of_getElem? (i := 3) rfl
  have f85 : Cond.fieldLink RX3 85 (TX2 1).1 (TX2 1).2.1 (TX2 1).2.2.1 ∈ wsX3_setTurnIn := List.mem_of_getElem? (i := 4) rfl
  have f89 : Cond.fieldLink RX3 89 (TX4 9).1 (TX4 9).2.1 (TX4 9).2.2.1 ∈ wsX3_setTurnIn := List.mem_of_getElem? (i := 5) rfl
  have uX4 : ∀ w ∈ u_ws RX4 TX4 12, w ∈ wsX3_setTurnIn := by decide +kernel
  unfold J_X3_setTurnIn at hJ
  refine V_aload_n C dX3_setTurnIn_0 0 rfl ?_
  refine V_dup C dX3_setTurnIn_1 rfl ?_
  refine V_get (ci := 3) C okX_5_0 uX3 rfl 4 (Nat.le_of_ble_eq_true rfl) rfl rfl f26 dX3_setTurnIn_2 ?_
  refine V_iconst (v := 1) C dX3_setTurnIn_5 ci_1 ?_
  refine V_iadd C dX3_setTurnIn_6 ?_
  refine V_put (ci := 3) C okX_5_0 uX3 tyX3 tyX3_ok nmX3 rfl 4 (Nat.le_of_ble_eq_true rfl) rfl rfl f26 rfl (ty := .int) (by decide +kernel) rfl rfl (Nat.le_of_ble_eq_true rfl) dX3_setTurnIn_7 (fun τ1 hτ1 => ?_)
  replace hJ := hJ τ1 hτ1
  refine V_aload_n C dX3_setTurnIn_10 0 rfl ?_
  refine V_iconst (v := 0) C dX3_setTurnIn_11 ci_0 ?_
  refine V_aload_n C dX3_setTurnIn_12 1 rfl ?_
  refine V_get (ci := 2) C (ok7 hj1) uX2 rfl 6 (Nat.le_of_ble_eq_true rfl) rfl rfl f78 dX3_setTurnIn_13 ?_
  refine V_iconst (v := 1) C dX3_setTurnIn_16 ci_1 ?_
  refine V_isub C dX3_setTurnIn_17 ?_
  refine V_cVi (st := []) (ci := 3) C okX_5_0 (M_X3_number l D tc ad A 0 ((τ1 (7, j1, 0) 6) - 1) hJ) (cwV 2 C.1.2.2.2.2 gX3_setTurnIn_X3_number rfl rfl rfl (by decide +kernel) ⟨Nat.le_of_ble_eq_true rfl, Nat.le_of_ble_eq_true rfl⟩) rfl rfl rfl rfl (Nat.le_of_ble_eq_true rfl) dX3_setTurnIn_18 (fun r2 τ2 hJ => ?_)
  refine V_istore_n (lv' := [(2, .int r2), (0, .ref (ad (5, 0, 0))), (1, .ref (ad (7, j1, 0)))]) C dX3_setTurnIn_21 (by decide) rfl ?_
  refine V_aload_n C dX3_setTurnIn_22 1 rfl ?_
  refine V_bipush (v := 46) C dX3_setTurnIn_23 cb_46 ?_
  refine V_cVv (st := []) (ci := 3) C okX_5_0 (M_X3_pass l D tc ad A 46 hJ) (cwV 1 C.1.2.2.2.2 gX3_setTurnIn_X3_pass rfl rfl rfl (by decide +kernel) ⟨Nat.le_of_ble_eq_true rfl, Nat.le_of_ble_eq_true rfl⟩) rfl rfl rfl rfl (Nat.le_of_ble_eq_true rfl) dX3_setTurnIn_25 (fun τ3 hJ => ?_)
  refine V_aload_n C dX3_setTurnIn_28 1 rfl ?_
  refine V_iconst (v := 0) C dX3_setTurnIn_29 ci_0 ?_
  refine V_bipush (v := 24) C dX3_setTurnIn_30 cb_24 ?_
  refine V_cVi (st := []) (ci := 3) C okX_5_0 (M_X3_number l D tc ad A 0 24 hJ) (cwV 2 C.1.2.2.2.2 gX3_setTurnIn_X3_number rfl rfl rfl (by decide +kernel) ⟨Nat.le_of_ble_eq_true rfl, Nat.le_of_ble_eq_true rfl⟩) rfl rfl rfl rfl (Nat.le_of_ble_eq_true rfl) dX3_setTurnIn_32 (fun r4 τ4 hJ => ?_)
  refine V_istore_n (lv' := [(3, .int r4), (2, .int r2), (0, .ref (ad (5, 0, 0))), (1, .ref (ad (7, j1, 0)))]) C dX3_setTurnIn_35 (by decide) rfl ?_
  refine V_aload_n C dX3_setTurnIn_36 2 rfl ?_
  refine V_bipush (v := 59) C dX3_setTurnIn_37 cb_59 ?_
  refine V_cVv (st := []) (ci := 3) C okX_5_0 (M_X3_pass l D tc ad A 59 hJ) (cwV 1 C.1.2.2.2.2 gX3_setTurnIn_X3_pass rfl rfl rfl (by decide +kernel) ⟨Nat.le_of_ble_eq_true rfl, Nat.le_of_ble_eq_true rfl⟩) rfl rfl rfl rfl (Nat.le_of_ble_eq_true rfl) dX3_setTurnIn_39 (fun τ5 hJ => ?_)
  refine V_aload_n C dX3_setTurnIn_42 2 rfl ?_
  refine V_get (ci := 3) C okX_5_0 uX3 rfl 1 (Nat.le_of_ble_eq_true rfl) rfl rfl f9 dX3_setTurnIn_43 ?_
  refine V_bipush (v := (-105)) C dX3_setTurnIn_46 cb_m105 ?_
  obtain ⟨hJt, hJf⟩ := hJ
  refine V_icmp_ne C (tgt := 69) dX3_setTurnIn_48 rfl (fun hc6 => ?_) (fun hc6 => ?_)
  · have hJ := hJt hc6; clear hJt hJf
    exact V_vret C hr hlocks dX3_setTurnIn_69 hJ
  · have hJ := hJf hc6; clear hJt hJf
    refine V_aload_n C dX3_setTurnIn_51 3 rfl ?_
    refine V_iload_n C dX3_setTurnIn_52 1 rfl ?_
    refine V_cVi (st := []) (ci := 2) C (ok7 hj1) (M_X2_hasUser l D tc ad A j1 hj1 r2 hJ) (cwV 1 C.1.2.2.2.2 gX3_setTurnIn_X2_hasUser rfl rfl rfl (by decide +kernel) ⟨Nat.le_of_ble_eq_true rfl, Nat.le_of_ble_eq_true rfl⟩) rfl rfl rfl rfl (Nat.le_of_ble_eq_true rfl) dX3_setTurnIn_53 (fun r7 τ7 hJ => ?_)
    obtain ⟨hJt, hJf⟩ := hJ
    refine V_if_eq C (tgt := 69) dX3_setTurnIn_56 rfl (fun hc8 => ?_) (fun hc8 => ?_)
    · have hJ := hJt hc8; clear hJt hJf
      exact V_vret C hr hlocks dX3_setTurnIn_69 hJ
    · have hJ := hJf hc8; clear hJt hJf
      refine V_aload_n C dX3_setTurnIn_59 3 rfl ?_
      refine V_get (ci := 2) C (ok7 hj1) uX2 rfl 1 (Nat.le_of_ble_eq_true rfl) rfl rfl f85 dX3_setTurnIn_60 ?_
      refine V_iload_n C dX3_setTurnIn_63 1 rfl ?_
      obtain ⟨hv9, hJ⟩ := hJ
      refine V_aald (o' := (14, j1, r2.toNatClampNeg)) C (ok9 hj1) 4 rfl rfl hv9 rfl dX3_setTurnIn_64 ?_
      refine V_iload_n C dX3_setTurnIn_65 0 rfl ?_
      refine V_put (ci := 4) C (ok14 hj1 (vp_lt hv9)) uX4 tyX4 tyX4_ok nmX4 rfl 9 (Nat.le_of_ble_eq_true rfl) rfl rfl f89 rfl (ty := .int) (by decide +kernel) rfl rfl (Nat.le_of_ble_eq_true rfl) dX3_setTurnIn_66 (fun τ10 hτ10 => ?_)
      replace hJ := hJ τ10 hτ10
      exact V_vret C hr hlocks dX3_setTurnIn_69 hJ
set_option maxHeartbeats 4000000 in
set_option maxRecDepth 100000 in
theorem M_X3_setSupplyIn (l : Launch) (D : va_G) (tc : Nat → ClassId) (ad : Oid → Nat) (A : Nat → Prop) (j1 : Nat) (hj1 : j1 < 4) {σ : Mem} {Qr : Mem → Prop} (hJ : J_X3_setSupplyIn j1 σ Qr) : Met l yX3_setSupplyIn wsX3_setSupplyIn ({ frames := 3, cells := 0, slots := 0, locals := 65 }) (va_Pc [.ref (ad (5, 0, 0)), .ref (ad (7, j1, 0))] (WdI D vwCl (tysX tc) idsX ad (ceX tc ad) A σ)) (va_Qv (fun (u : Mem) => Qr u) (WdO D vwCl idsX ad (ceX tc ad) A) A) 0 0 A := by
  refine V_metv (cc := cX3_setSupplyIn) (nL := 5) (ret := none) (own := RX3) rfl (plainFor_of_name (by decide)) rfl rfl (Nat.le_of_ble_eq_true rfl) ?_
  intro p e s m below meth c C hr hlocks
  refine V_sub (lv' := [(0, .ref (ad (5, 0, 0))), (1, .ref (ad (7, j1, 0)))]) [0, 1] rfl ?_
  have f26 : Cond.fieldLink RX3 26 (TX3 4).1 (TX3 4).2.1 (TX3 4).2.2.1 ∈ wsX3_setSupplyIn := List.mem_of_getElem? (i := 1) rfl
  have uX3 : ∀ w ∈ u_ws RX3 TX3 5, w ∈ wsX3_setSupplyIn := by decide +kernel
  have f9 : Cond.fieldLink RX3 9 (TX3 1).1 (TX3 1).2.1 (TX3 1).2.2.1 ∈ wsX3_setSupplyIn := List.mem_of_getElem? (i := 2) rfl
  unfold J_X3_setSupplyIn at hJ
  refine V_aload_n C dX3_setSupplyIn_0 0 rfl ?_
  refine V_dup C dX3_setSupplyIn_1 rfl ?_
  refine V_get (ci := 3) C okX_5_0 uX3 rfl 4 (Nat.le_of_ble_eq_true rfl) rfl rfl f26 dX3_setSupplyIn_2 ?_
  refine V_iconst (v := 1) C dX3_setSupplyIn_5 ci_1 ?_
  refine V_iadd C dX3_setSupplyIn_6 ?_
  refine V_put (ci := 3) C okX_5_0 uX3 tyX3 tyX3_ok nmX3 rfl 4 (Nat.le_of_ble_eq_true rfl) rfl rfl f26 rfl (ty := .int) (by decide +kernel) rfl rfl (Nat.le_of_ble_eq_true rfl) dX3_setSupplyIn_7 (fun τ1 hτ1 => ?_)
  replace hJ := hJ τ1 hτ1
  refine V_aload_n C dX3_setSupplyIn_10 0 rfl ?_
  refine V_iconst (v := 0) C dX3_setSupplyIn_11 ci_0 ?_
  refine V_bipush (v := 23) C dX3_setSupplyIn_12 cb_23 ?_
  refine V_cVi (st := []) (ci := 3) C okX_5_0 (M_X3_number l D tc ad A 0 23 hJ) (cwV 2 C.1.2.2.2.2 gX3_setSupplyIn_X3_number rfl rfl rfl (by decide +kernel) ⟨Nat.le_of_ble_eq_true rfl, Nat.le_of_ble_eq_true rfl⟩) rfl rfl rfl rfl (Nat.le_of_ble_eq_true rfl) dX3_setSupplyIn_14 (fun r2 τ2 hJ => ?_)
  refine V_istore_n (lv' := [(2, .int r2), (0, .ref (ad (5, 0, 0))), (1, .ref (ad (7, j1, 0)))]) C dX3_setSupplyIn_17 (by decide) rfl ?_
  refine V_aload_n C dX3_setSupplyIn_18 1 rfl ?_
  refine V_bipush (v := 45) C dX3_setSupplyIn_19 cb_45 ?_
  refine V_cVv (st := []) (ci := 3) C okX_5_0 (M_X3_pass l D tc ad A 45 hJ) (cwV 1 C.1.2.2.2.2 gX3_setSupplyIn_X3_pass rfl rfl rfl (by decide +kernel) ⟨Nat.le_of_ble_eq_true rfl, Nat.le_of_ble_eq_true rfl⟩) rfl rfl rfl rfl (Nat.le_of_ble_eq_true rfl) dX3_setSupplyIn_21 (fun τ3 hJ => ?_)
  refine V_aload_n C dX3_setSupplyIn_24 1 rfl ?_
  refine V_iload_n C dX3_setSupplyIn_25 0 rfl ?_
  refine V_iconst (v := 1) C dX3_setSupplyIn_26 ci_1 ?_
  refine V_iadd C dX3_setSupplyIn_27 ?_
  refine V_bipush (v := 24) C dX3_setSupplyIn_28 cb_24 ?_
  refine V_cVi (st := []) (ci := 3) C okX_5_0 (M_X3_number l D tc ad A (r2 + 1) 24 hJ) (cwV 2 C.1.2.2.2.2 gX3_setSupplyIn_X3_number rfl rfl rfl (by decide +kernel) ⟨Nat.le_of_ble_eq_true rfl, Nat.le_of_ble_eq_true rfl⟩) rfl rfl rfl rfl (Nat.le_of_ble_eq_true rfl) dX3_setSupplyIn_30 (fun r4 τ4 hJ => ?_)
  refine V_istore_n (lv' := [(3, .int r4), (2, .int r2), (0, .ref (ad (5, 0, 0))), (1, .ref (ad (7, j1, 0)))]) C dX3_setSupplyIn_33 (by decide) rfl ?_
  refine V_aload_n C dX3_setSupplyIn_34 2 rfl ?_
  refine V_bipush (v := 46) C dX3_setSupplyIn_35 cb_46 ?_
  refine V_cVv (st := []) (ci := 3) C okX_5_0 (M_X3_pass l D tc ad A 46 hJ) (cwV 1 C.1.2.2.2.2 gX3_setSupplyIn_X3_pass rfl rfl rfl (by decide +kernel) ⟨Nat.le_of_ble_eq_true rfl, Nat.le_of_ble_eq_true rfl⟩) rfl rfl rfl rfl (Nat.le_of_ble_eq_true rfl) dX3_setSupplyIn_37 (fun τ5 hJ => ?_)
  refine V_aload_n C dX3_setSupplyIn_40 2 rfl ?_
  refine V_iconst (v := 0) C dX3_setSupplyIn_41 ci_0 ?_
  refine V_sipush (v := 200) C dX3_setSupplyIn_42 cs_200 ?_
  refine V_cVi (st := []) (ci := 3) C okX_5_0 (M_X3_number l D tc ad A 0 200 hJ) (cwV 2 C.1.2.2.2.2 gX3_setSupplyIn_X3_number rfl rfl rfl (by decide +kernel) ⟨Nat.le_of_ble_eq_true rfl, Nat.le_of_ble_eq_true rfl⟩) rfl rfl rfl rfl (Nat.le_of_ble_eq_true rfl) dX3_setSupplyIn_45 (fun r6 τ6 hJ => ?_)
  refine V_istore (lv' := [(4, .int r6), (3, .int r4), (2, .int r2), (0, .ref (ad (5, 0, 0))), (1, .ref (ad (7, j1, 0)))]) C dX3_setSupplyIn_48 (by decide) rfl ?_
  refine V_aload_n C dX3_setSupplyIn_50 3 rfl ?_
  refine V_bipush (v := 59) C dX3_setSupplyIn_51 cb_59 ?_
  refine V_cVv (st := []) (ci := 3) C okX_5_0 (M_X3_pass l D tc ad A 59 hJ) (cwV 1 C.1.2.2.2.2 gX3_setSupplyIn_X3_pass rfl rfl rfl (by decide +kernel) ⟨Nat.le_of_ble_eq_true rfl, Nat.le_of_ble_eq_true rfl⟩) rfl rfl rfl rfl (Nat.le_of_ble_eq_true rfl) dX3_setSupplyIn_53 (fun τ7 hJ => ?_)
  refine V_aload_n C dX3_setSupplyIn_56 3 rfl ?_
  refine V_get (ci := 3) C okX_5_0 uX3 rfl 1 (Nat.le_of_ble_eq_true rfl) rfl rfl f9 dX3_setSupplyIn_57 ?_
  refine V_bipush (v := (-105)) C dX3_setSupplyIn_60 cb_m105 ?_
  obtain ⟨hJt, hJf⟩ := hJ
  refine V_icmp_ne C (tgt := 73) dX3_setSupplyIn_62 rfl (fun hc8 => ?_) (fun hc8 => ?_)
  · have hJ := hJt hc8; clear hJt hJf
    exact V_vret C hr hlocks dX3_setSupplyIn_73 hJ
  · have hJ := hJf hc8; clear hJt hJf
    refine V_aload_n C dX3_setSupplyIn_65 4 rfl ?_
    refine V_iload_n C dX3_setSupplyIn_66 2 rfl ?_
    refine V_iload_n C dX3_setSupplyIn_67 1 rfl ?_
    refine V_iload C dX3_setSupplyIn_68 0 rfl ?_
    refine V_cVv (st := []) (ci := 2) C (ok7 hj1) (M_X2_putSupply l D tc ad A j1 hj1 r2 r4 r6 hJ) (cwV 3 C.1.2.2.2.2 gX3_setSupplyIn_X2_putSupply rfl rfl rfl (by decide +kernel) ⟨Nat.le_of_ble_eq_true rfl, Nat.le_of_ble_eq_true rfl⟩) rfl rfl rfl rfl (Nat.le_of_ble_eq_true rfl) dX3_setSupplyIn_70 (fun τ9 hJ => ?_)
    exact V_vret C hr hlocks dX3_setSupplyIn_73 hJ
set_option maxHeartbeats 4000000 in
set_option maxRecDepth 100000 in
theorem M_X3_carryOutNext (l : Launch) (D : va_G) (tc : Nat → ClassId) (ad : Oid → Nat) (A : Nat → Prop) (j1 : Nat) (hj1 : j1 < 4) {σ : Mem} {Qr : Mem → Prop} (hJ : J_X3_carryOutNext j1 σ Qr) : Met l yX3_carryOutNext wsX3_carryOutNext ({ frames := 4, cells := 0, slots := 0, locals := 89 }) (va_Pc [.ref (ad (5, 0, 0)), .ref (ad (7, j1, 0))] (WdI D vwCl (tysX tc) idsX ad (ceX tc ad) A σ)) (va_Qv (fun (u : Mem) => Qr u) (WdO D vwCl idsX ad (ceX tc ad) A) A) 0 0 A := by
  refine V_metv (cc := cX3_carryOutNext) (nL := 2) (ret := none) (own := RX3) rfl (plainFor_of_name (by decide)) rfl rfl (Nat.le_of_ble_eq_true rfl) ?_
  intro p e s m below meth c C hr hlocks
  refine V_sub (lv' := [(0, .ref (ad (5, 0, 0))), (1, .ref (ad (7, j1, 0)))]) [0, 1] rfl ?_
  have f26 : Cond.fieldLink RX3 26 (TX3 4).1 (TX3 4).2.1 (TX3 4).2.2.1 ∈ wsX3_carryOutNext := List.mem_of_getElem? (i := 1) rfl
  have uX3 : ∀ w ∈ u_ws RX3 TX3 5, w ∈ wsX3_carryOutNext := by decide +kernel
  have f9 : Cond.fieldLink RX3 9 (TX3 1).1 (TX3 1).2.1 (TX3 1).2.2.1 ∈ wsX3_carryOutNext := List.mem_of_getElem? (i := 2) rfl
  unfold J_X3_carryOutNext at hJ
  refine V_aload_n C dX3_carryOutNext_0 0 rfl ?_
  refine V_cVi (st := []) (ci := 3) C okX_5_0 (M_X3_letterHere l D tc ad A  hJ) (cwV 0 C.1.2.2.2.2 gX3_carryOutNext_X3_letterHere rfl rfl rfl (by decide +kernel) ⟨Nat.le_of_ble_eq_true rfl, Nat.le_of_ble_eq_true rfl⟩) rfl rfl rfl rfl (Nat.le_of_ble_eq_true rfl) dX3_carryOutNext_1 (fun r1 τ1 hJ => ?_)
  obtain ⟨hJ100, hJ115, hJ116, hJ117, hJ⟩ := hJ
  by_cases hk100 : r1 = 100
  · refine V_lookup C (tgt := 48) dX3_carryOutNext_4 (by decide) (off := 44) (by rw [hk100]; decide) rfl ?_
    replace hJ := hJ100 hk100
    refine V_aload_n C dX3_carryOutNext_48 0 rfl ?_
    refine V_aload_n C dX3_carryOutNext_49 1 rfl ?_
    refine V_cVv (st := []) (ci := 3) C okX_5_0 (M_X3_addDitchTo l D tc ad A j1 hj1 hJ) (cwV 1 C.1.2.2.2.2 gX3_carryOutNext_X3_addDitchTo rfl rfl rfl (by decide +kernel) ⟨Nat.le_of_ble_eq_true rfl, Nat.le_of_ble_eq_true rfl⟩) rfl rfl rfl rfl (Nat.le_of_ble_eq_true rfl) dX3_carryOutNext_50 (fun τ2 hJ => ?_)
    refine V_goto C (tgt := 88) dX3_carryOutNext_53 rfl ?_
    exact V_vret C hr hlocks dX3_carryOutNext_88 hJ
  by_cases hk115 : r1 = 115
  · refine V_lookup C (tgt := 72) dX3_carryOutNext_4 (by decide) (off := 68) (by rw [hk115]; decide) rfl ?_
    replace hJ := hJ115 hk115
    refine V_aload_n C dX3_carryOutNext_72 0 rfl ?_
    refine V_aload_n C dX3_carryOutNext_73 1 rfl ?_
    refine V_cVv (st := []) (ci := 3) C okX_5_0 (M_X3_setSupplyIn l D tc ad A j1 hj1 hJ) (cwV 1 C.1.2.2.2.2 gX3_carryOutNext_X3_setSupplyIn rfl rfl rfl (by decide +kernel) ⟨Nat.le_of_ble_eq_true rfl, Nat.le_of_ble_eq_true rfl⟩) rfl rfl rfl rfl (Nat.le_of_ble_eq_true rfl) dX3_carryOutNext_74 (fun τ3 hJ => ?_)
    refine V_goto C (tgt := 88) dX3_carryOutNext_77 rfl ?_
    exact V_vret C hr hlocks dX3_carryOutNext_88 hJ
  by_cases hk116 : r1 = 116
  · refine V_lookup C (tgt := 64) dX3_carryOutNext_4 (by decide) (off := 60) (by rw [hk116]; decide) rfl ?_
    replace hJ := hJ116 hk116
    refine V_aload_n C dX3_carryOutNext_64 0 rfl ?_
    refine V_aload_n C dX3_carryOutNext_65 1 rfl ?_
    refine V_cVv (st := []) (ci := 3) C okX_5_0 (M_X3_setTurnIn l D tc ad A j1 hj1 hJ) (cwV 1 C.1.2.2.2.2 gX3_carryOutNext_X3_setTurnIn rfl rfl rfl (by decide +kernel) ⟨Nat.le_of_ble_eq_true rfl, Nat.le_of_ble_eq_true rfl⟩) rfl rfl rfl rfl (Nat.le_of_ble_eq_true rfl) dX3_carryOutNext_66 (fun τ4 hJ => ?_)
    refine V_goto C (tgt := 88) dX3_carryOutNext_69 rfl ?_
    exact V_vret C hr hlocks dX3_carryOutNext_88 hJ
  by_cases hk117 : r1 = 117
  · refine V_lookup C (tgt := 56) dX3_carryOutNext_4 (by decide) (off := 52) (by rw [hk117]; decide) rfl ?_
    replace hJ := hJ117 hk117
    refine V_aload_n C dX3_carryOutNext_56 0 rfl ?_
    refine V_aload_n C dX3_carryOutNext_57 1 rfl ?_
    refine V_cVv (st := []) (ci := 3) C okX_5_0 (M_X3_addUserTo l D tc ad A j1 hj1 hJ) (cwV 1 C.1.2.2.2.2 gX3_carryOutNext_X3_addUserTo rfl rfl rfl (by decide +kernel) ⟨Nat.le_of_ble_eq_true rfl, Nat.le_of_ble_eq_true rfl⟩) rfl rfl rfl rfl (Nat.le_of_ble_eq_true rfl) dX3_carryOutNext_58 (fun τ5 hJ => ?_)
    refine V_goto C (tgt := 88) dX3_carryOutNext_61 rfl ?_
    exact V_vret C hr hlocks dX3_carryOutNext_88 hJ
  refine V_lookup C (tgt := 80) dX3_carryOutNext_4 (by decide) (off := 76) (by simp only [List.toList_toArray]; rw [lv_osw hk100 (by decide), lv_osw hk115 (by decide), lv_osw hk116 (by decide), lv_osw hk117 (by decide)]; rfl) rfl ?_
  replace hJ := hJ hk100 hk115 hk116 hk117
  refine V_aload_n C dX3_carryOutNext_80 0 rfl ?_
  refine V_aload_n C dX3_carryOutNext_81 0 rfl ?_
  refine V_get (ci := 3) C okX_5_0 uX3 rfl 4 (Nat.le_of_ble_eq_true rfl) rfl rfl f26 dX3_carryOutNext_82 ?_
  refine V_put (ci := 3) C okX_5_0 uX3 tyX3 tyX3_ok nmX3 rfl 1 (Nat.le_of_ble_eq_true rfl) rfl rfl f9 rfl (ty := .int) (by decide +kernel) rfl rfl (Nat.le_of_ble_eq_true rfl) dX3_carryOutNext_85 (fun τ6 hτ6 => ?_)
  replace hJ := hJ τ6 hτ6
  exact V_vret C hr hlocks dX3_carryOutNext_88 hJ
set_option maxHeartbeats 4000000 in
set_option maxRecDepth 100000 in
theorem M_X3_carryOut (l : Launch) (D : va_G) (tc : Nat → ClassId) (ad : Oid → Nat) (A : Nat → Prop) (j1 : Nat) (hj1 : j1 < 4) {σ : Mem} {Qr : Mem → Prop} (hJ : J_X3_carryOut j1 σ Qr) : Met l yX3_carryOut wsX3_carryOut ({ frames := 5, cells := 0, slots := 0, locals := 110 }) (va_Pc [.ref (ad (5, 0, 0)), .ref (ad (7, j1, 0))] (WdI D vwCl (tysX tc) idsX ad (ceX tc ad) A σ)) (va_Qv (fun (u : Mem) => Qr u) (WdO D vwCl idsX ad (ceX tc ad) A) A) 0 0 A := by
  refine V_metv (cc := cX3_carryOut) (nL := 2) (ret := none) (own := RX3) rfl (plainFor_of_name (by decide)) rfl rfl (Nat.le_of_ble_eq_true rfl) ?_
  intro p e s m below meth c C hr hlocks
  refine V_sub (lv' := [(0, .ref (ad (5, 0, 0))), (1, .ref (ad (7, j1, 0)))]) [0, 1] rfl ?_
  have f26 : Cond.fieldLink RX3 26 (TX3 4).1 (TX3 4).2.1 (TX3 4).2.2.1 ∈ wsX3_carryOut := List.mem_of_getElem? (i := 1) rfl
  have uX3 : ∀ w ∈ u_ws RX3 TX3 5, w ∈ wsX3_carryOut := by decide +kernel
  have f9 : Cond.fieldLink RX3 9 (TX3 1).1 (TX3 1).2.1 (TX3 1).2.2.1 ∈ wsX3_carryOut := List.mem_of_getElem? (i := 2) rfl
  have f29 : Cond.fieldLink RX3 29 (TX3 2).1 (TX3 2).2.1 (TX3 2).2.2.1 ∈ wsX3_carryOut := List.mem_of_getElem? (i := 3) rfl
  have f19 : Cond.fieldLink RX3 19 (TX3 0).1 (TX3 0).2.1 (TX3 0).2.2.1 ∈ wsX3_carryOut := List.mem_of_getElem? (i := 4) rfl
  unfold J_X3_carryOut at hJ
  refine V_aload_n C dX3_carryOut_0 0 rfl ?_
  refine V_iconst (v := 0) C dX3_carryOut_1 ci_0 ?_
  refine V_put (ci := 3) C okX_5_0 uX3 tyX3 tyX3_ok nmX3 rfl 4 (Nat.le_of_ble_eq_true rfl) rfl rfl f26 rfl (ty := .int) (by decide +kernel) rfl rfl (Nat.le_of_ble_eq_true rfl) dX3_carryOut_2 (fun τ1 hτ1 => ?_)
  replace hJ := hJ τ1 hτ1
  refine V_aload_n C dX3_carryOut_5 0 rfl ?_
  refine V_bipush (v := (-105)) C dX3_carryOut_6 cb_m105 ?_
  refine V_put (ci := 3) C okX_5_0 uX3 tyX3 tyX3_ok nmX3 rfl 1 (Nat.le_of_ble_eq_true rfl) rfl rfl f9 rfl (ty := .int) (by decide +kernel) rfl rfl (Nat.le_of_ble_eq_true rfl) dX3_carryOut_8 (fun τ2 hτ2 => ?_)
  replace hJ := hJ τ2 hτ2
  refine V_aload_n C dX3_carryOut_11 0 rfl ?_
  refine V_iconst (v := 0) C dX3_carryOut_12 ci_0 ?_
  refine V_put (ci := 3) C okX_5_0 uX3 tyX3 tyX3_ok nmX3 rfl 2 (Nat.le_of_ble_eq_true rfl) rfl rfl f29 rfl (ty := .int) (by decide +kernel) rfl rfl (Nat.le_of_ble_eq_true rfl) dX3_carryOut_13 (fun τ3 hτ3 => ?_)
  replace hJ := hJ τ3 hτ3
  obtain ⟨I16, μ16, hI16, hst16⟩ := hJ
  have L16 : ∀ (n : Nat) (τ4 : Mem), μ16 τ4 < n → I16 τ4 → VV p l e (headSpec wsX3_carryOut ({ frames := 5, cells := 0, slots := 0, locals := 110 })).room s m ([.ref (ad (5, 0, 0)), .ref (ad (7, j1, 0))] : List Value).toArray below meth c D vwCl idsX ad (ceX tc ad) A (MQ below (va_Qv (fun (u : Mem) => Qr u) (WdO D vwCl idsX ad (ceX tc ad) A) A) ([.ref (ad (5, 0, 0)), .ref (ad (7, j1, 0))] : List Value).toArray s 0 0 A) 2 16 [(0, .ref (ad (5, 0, 0))), (1, .ref (ad (7, j1, 0)))] [] τ4 := by
    intro n
    induction n with
    | zero => intro τ4 hμ _; exact absurd hμ (Nat.not_lt_zero _)
    | succ n ihn =>
      intro τ4 hμ16 hJ
      have ih16 := ihn
      replace hJ := hst16 τ4 hJ
      refine V_aload_n C dX3_carryOut_16 0 rfl ?_
      refine V_get (ci := 3) C okX_5_0 uX3 rfl 4 (Nat.le_of_ble_eq_true rfl) rfl rfl f26 dX3_carryOut_17 ?_
      refine V_aload_n C dX3_carryOut_20 0 rfl ?_
      refine V_get (ci := 3) C okX_5_0 uX3 rfl 0 (Nat.le_of_ble_eq_true rfl) rfl rfl f19 dX3_carryOut_21 ?_
      obtain ⟨hJt, hJf⟩ := hJ
      refine V_icmp_ge C (tgt := 63) dX3_carryOut_24 rfl (fun hc5 => ?_) (fun hc5 => ?_)
      · have hJ := hJt hc5; clear hJt hJf
        exact V_vret C hr hlocks dX3_carryOut_63 hJ
      · have hJ := hJf hc5; clear hJt hJf
        refine V_aload_n C dX3_carryOut_27 0 rfl ?_
        refine V_get (ci := 3) C okX_5_0 uX3 rfl 1 (Nat.le_of_ble_eq_true rfl) rfl rfl f9 dX3_carryOut_28 ?_
        refine V_bipush (v := (-105)) C dX3_carryOut_31 cb_m105 ?_
        obtain ⟨hJt, hJf⟩ := hJ
        refine V_icmp_ne C (tgt := 63) dX3_carryOut_33 rfl (fun hc6 => ?_) (fun hc6 => ?_)
        · have hJ := hJt hc6; clear hJt hJf
          exact V_vret C hr hlocks dX3_carryOut_63 hJ
        · have hJ := hJf hc6; clear hJt hJf
          refine V_aload_n C dX3_carryOut_36 0 rfl ?_
          refine V_get (ci := 3) C okX_5_0 uX3 rfl 2 (Nat.le_of_ble_eq_true rfl) rfl rfl f29 dX3_carryOut_37 ?_
          refine V_bipush (v := 100) C dX3_carryOut_40 cb_100 ?_
          obtain ⟨hJt, hJf⟩ := hJ
          refine V_icmp_ge C (tgt := 63) dX3_carryOut_42 rfl (fun hc7 => ?_) (fun hc7 => ?_)
          · have hJ := hJt hc7; clear hJt hJf
            exact V_vret C hr hlocks dX3_carryOut_63 hJ
          · have hJ := hJf hc7; clear hJt hJf
            refine V_aload_n C dX3_carryOut_45 0 rfl ?_
            refine V_aload_n C dX3_carryOut_46 1 rfl ?_
            refine V_cVv (st := []) (ci := 3) C okX_5_0 (M_X3_carryOutNext l D tc ad A j1 hj1 hJ) (cwV 1 C.1.2.2.2.2 gX3_carryOut_X3_carryOutNext rfl rfl rfl (by decide +kernel) ⟨Nat.le_of_ble_eq_true rfl, Nat.le_of_ble_eq_true rfl⟩) rfl rfl rfl rfl (Nat.le_of_ble_eq_true rfl) dX3_carryOut_47 (fun τ8 hJ => ?_)
            refine V_aload_n C dX3_carryOut_50 0 rfl ?_
            refine V_dup C dX3_carryOut_51 rfl ?_
            refine V_get (ci := 3) C okX_5_0 uX3 rfl 2 (Nat.le_of_ble_eq_true rfl) rfl rfl f29 dX3_carryOut_52 ?_
            refine V_iconst (v := 1) C dX3_carryOut_55 ci_1 ?_
            refine V_iadd C dX3_carryOut_56 ?_
            refine V_put (ci := 3) C okX_5_0 uX3 tyX3 tyX3_ok nmX3 rfl 2 (Nat.le_of_ble_eq_true rfl) rfl rfl f29 rfl (ty := .int) (by decide +kernel) rfl rfl (Nat.le_of_ble_eq_true rfl) dX3_carryOut_57 (fun τ9 hτ9 => ?_)
            replace hJ := hJ τ9 hτ9
            refine V_goto C (tgt := 16) dX3_carryOut_60 rfl ?_
            exact ih16 τ9 (Nat.lt_of_lt_of_le hJ.2 (Nat.le_of_lt_succ hμ16)) hJ.1
  exact L16 _ τ3 (Nat.lt_succ_self _) hI16
set_option maxHeartbeats 4000000 in
set_option maxRecDepth 100000 in
theorem M_X3_isFull (l : Launch) (D : va_G) (tc : Nat → ClassId) (ad : Oid → Nat) (A : Nat → Prop) {σ : Mem} {Qr : Int32 → Mem → Prop} (hJ : J_X3_isFull σ Qr) : Met l yX3_isFull wsX3_isFull ({ frames := 0, cells := 0, slots := 0, locals := 0 }) (va_Pc [.ref (ad (5, 0, 0))] (WdI D vwCl (tysX tc) idsX ad (ceX tc ad) A σ)) (va_Qi (fun (r : Int32) (u : Mem) => Qr r u) (WdO D vwCl idsX ad (ceX tc ad) A) A) 0 0 A := by
  refine V_meti (cc := cX3_isFull) (nL := 1) (ret := (some .boolean)) (own := RX3) rfl (plainFor_of_name (by decide)) rfl rfl (Nat.le_of_ble_eq_true rfl) ?_
  intro p e s m below meth c C hr hlocks
  refine V_sub (lv' := [(0, .ref (ad (5, 0, 0)))]) [0] rfl ?_
  have f19 : Cond.fieldLink RX3 19 (TX3 0).1 (TX3 0).2.1 (TX3 0).2.2.1 ∈ wsX3_isFull := List.mem_of_getElem? (i := 1) rfl
  have uX3 : ∀ w ∈ u_ws RX3 TX3 5, w ∈ wsX3_isFull := by decide +kernel
  unfold J_X3_isFull at hJ
  refine V_aload_n C dX3_isFull_0 0 rfl ?_
  refine V_get (ci := 3) C okX_5_0 uX3 rfl 0 (Nat.le_of_ble_eq_true rfl) rfl rfl f19 dX3_isFull_1 ?_
  refine V_bipush (v := 100) C dX3_isFull_4 cb_100 ?_
  obtain ⟨hJt, hJf⟩ := hJ
  refine V_icmp_lt C (tgt := 13) dX3_isFull_6 rfl (fun hc1 => ?_) (fun hc1 => ?_)
  · have hJ := hJt hc1; clear hJt hJf
    refine V_iconst (v := 0) C dX3_isFull_13 ci_0 ?_
    exact V_zret C hr hlocks (Or.inl rfl) dX3_isFull_14 hJ
  · have hJ := hJf hc1; clear hJt hJf
    refine V_iconst (v := 1) C dX3_isFull_9 ci_1 ?_
    refine V_goto C (tgt := 14) dX3_isFull_10 rfl ?_
    exact V_zret C hr hlocks (Or.inr rfl) dX3_isFull_14 hJ
set_option maxHeartbeats 4000000 in
set_option maxRecDepth 100000 in
theorem M_X3_put (l : Launch) (D : va_G) (tc : Nat → ClassId) (ad : Oid → Nat) (A : Nat → Prop) (x1 : Int32) {σ : Mem} {Qr : Mem → Prop} (hJ : J_X3_put x1 σ Qr) : Met l yX3_put wsX3_put ({ frames := 1, cells := 0, slots := 0, locals := 20 }) (va_Pc [.ref (ad (5, 0, 0)), .int x1] (WdI D vwCl (tysX tc) idsX ad (ceX tc ad) A σ)) (va_Qv (fun (u : Mem) => Qr u) (WdO D vwCl idsX ad (ceX tc ad) A) A) 0 0 A := by
  refine V_metv (cc := cX3_put) (nL := 2) (ret := none) (own := RX3) rfl (plainFor_of_name (by decide)) rfl rfl (Nat.le_of_ble_eq_true rfl) ?_
  intro p e s m below meth c C hr hlocks
  refine V_sub (lv' := [(0, .ref (ad (5, 0, 0))), (1, .int x1)]) [0, 1] rfl ?_
  have f15 : Cond.fieldLink RX3 15 (TX3 3).1 (TX3 3).2.1 (TX3 3).2.2.1 ∈ wsX3_put := List.mem_of_getElem? (i := 1) rfl
  have uX3 : ∀ w ∈ u_ws RX3 TX3 5, w ∈ wsX3_put := by decide +kernel
  have f19 : Cond.fieldLink RX3 19 (TX3 0).1 (TX3 0).2.1 (TX3 0).2.2.1 ∈ wsX3_put := List.mem_of_getElem? (i := 2) rfl
  unfold J_X3_put at hJ
  refine V_aload_n C dX3_put_0 0 rfl ?_
  refine V_cVi (st := []) (ci := 3) C okX_5_0 (M_X3_isFull l D tc ad A  hJ) (cwV 0 C.1.2.2.2.2 gX3_put_X3_isFull rfl rfl rfl (by decide +kernel) ⟨Nat.le_of_ble_eq_true rfl, Nat.le_of_ble_eq_true rfl⟩) rfl rfl rfl rfl (Nat.le_of_ble_eq_true rfl) dX3_put_1 (fun r1 τ1 hJ => ?_)
  obtain ⟨hJt, hJf⟩ := hJ
  refine V_if_eq C (tgt := 8) dX3_put_4 rfl (fun hc2 => ?_) (fun hc2 => ?_)
  · have hJ := hJt hc2; clear hJt hJf
    refine V_aload_n C dX3_put_8 0 rfl ?_
    refine V_get (ci := 3) C okX_5_0 uX3 rfl 3 (Nat.le_of_ble_eq_true rfl) rfl rfl f15 dX3_put_9 ?_
    refine V_aload_n C dX3_put_12 0 rfl ?_
    refine V_get (ci := 3) C okX_5_0 uX3 rfl 0 (Nat.le_of_ble_eq_true rfl) rfl rfl f19 dX3_put_13 ?_
    refine V_iload_n C dX3_put_16 1 rfl ?_
    refine V_i2c C dX3_put_17 ?_
    obtain ⟨hv3, hJ⟩ := hJ
    refine V_cast C okX_6_0 2 rfl (fun _ => rfl) rfl hv3 dX3_put_18 (fun τ4 hτ4 => ?_)
    replace hJ := hJ τ4 hτ4
    refine V_aload_n C dX3_put_19 0 rfl ?_
    refine V_dup C dX3_put_20 rfl ?_
    refine V_get (ci := 3) C okX_5_0 uX3 rfl 0 (Nat.le_of_ble_eq_true rfl) rfl rfl f19 dX3_put_21 ?_
    refine V_iconst (v := 1) C dX3_put_24 ci_1 ?_
    refine V_iadd C dX3_put_25 ?_
    refine V_put (ci := 3) C okX_5_0 uX3 tyX3 tyX3_ok nmX3 rfl 0 (Nat.le_of_ble_eq_true rfl) rfl rfl f19 rfl (ty := .int) (by decide +kernel) rfl rfl (Nat.le_of_ble_eq_true rfl) dX3_put_26 (fun τ5 hτ5 => ?_)
    replace hJ := hJ τ5 hτ5
    exact V_vret C hr hlocks dX3_put_29 hJ
  · have hJ := hJf hc2; clear hJt hJf
    exact V_vret C hr hlocks dX3_put_7 hJ
set_option maxHeartbeats 4000000 in
set_option maxRecDepth 100000 in
theorem M_X5_account (l : Launch) (D : va_G) (tc : Nat → ClassId) (ad : Oid → Nat) (A : Nat → Prop) (x1 : Int32) {σ : Mem} {Qr : Int32 → Mem → Prop} (hJ : J_X5_account x1 σ Qr) : Met l yX5_account wsX5_account ({ frames := 1, cells := 0, slots := 0, locals := 22 }) (va_Pc [.ref (ad (0, 0, 0)), .int x1] (WdI D vwCl (tysX tc) idsX ad (ceX tc ad) A σ)) (va_Qi (fun (r : Int32) (u : Mem) => Qr r u) (WdO D vwCl idsX ad (ceX tc ad) A) A) 0 0 A := by
  refine V_meti (cc := cX5_account) (nL := 2) (ret := (some .int)) (own := RX5) rfl (plainFor_of_name (by decide)) rfl rfl (Nat.le_of_ble_eq_true rfl) ?_
  intro p e s m below meth c C hr hlocks
  refine V_sub (lv' := [(0, .ref (ad (0, 0, 0))), (1, .int x1)]) [0, 1] rfl ?_
  have f10 : Cond.fieldLink RX5 10 (TX5 0).1 (TX5 0).2.1 (TX5 0).2.2.1 ∈ wsX5_account := List.mem_of_getElem? (i := 1) rfl
  have uX5 : ∀ w ∈ u_ws RX5 TX5 6, w ∈ wsX5_account := by decide +kernel
  have f185 : Cond.fieldLink RX5 185 (TX2 4).1 (TX2 4).2.1 (TX2 4).2.2.1 ∈ wsX5_account := List.mem_of_getElem? (i := 2) rfl
  have uX2 : ∀ w ∈ u_ws RX2 TX2 10, w ∈ wsX5_account := by decide +kernel
  unfold J_X5_account at hJ
  refine V_iload_n C dX5_account_0 1 rfl ?_
  refine V_iconst (v := 0) C dX5_account_1 ci_0 ?_
  refine V_bipush (v := 6) C dX5_account_2 cb_6 ?_
  refine V_cSi (st := []) C (M_X5_isWithin l D tc ad A x1 0 6 hJ) (va_cwS 3 C.1.2.2.2.2 gX5_account_X5_isWithin rfl rfl rfl (by decide +kernel) ⟨Nat.le_of_ble_eq_true rfl, Nat.le_of_ble_eq_true rfl⟩) rfl rfl (Nat.le_of_ble_eq_true rfl) dX5_account_4 (fun r1 τ1 hJ => ?_)
  obtain ⟨hJt, hJf⟩ := hJ
  refine V_if_eq C (tgt := 22) dX5_account_7 rfl (fun hc2 => ?_) (fun hc2 => ?_)
  · have hJ := hJt hc2; clear hJt hJf
    refine V_bipush (v := (-102)) C dX5_account_22 cb_m102 ?_
    exact V_iret C hr hlocks dX5_account_24 hJ
  · have hJ := hJf hc2; clear hJt hJf
    refine V_aload_n C dX5_account_10 0 rfl ?_
    refine V_get (ci := 5) C okX_0_0 uX5 rfl 0 (Nat.le_of_ble_eq_true rfl) rfl rfl f10 dX5_account_11 ?_
    refine V_get (ci := 2) C (ok7 (by decide)) uX2 rfl 4 (Nat.le_of_ble_eq_true rfl) rfl rfl f185 dX5_account_14 ?_
    refine V_iload_n C dX5_account_17 1 rfl ?_
    obtain ⟨hv3, hJ⟩ := hJ
    refine V_iald C (ok12 (by decide)) 0 rfl rfl rfl hv3 dX5_account_18 ?_
    refine V_goto C (tgt := 24) dX5_account_19 rfl ?_
    exact V_iret C hr hlocks dX5_account_24 hJ
set_option maxHeartbeats 4000000 in
set_option maxRecDepth 100000 in
theorem M_X5_areGateAndLoss (l : Launch) (D : va_G) (tc : Nat → ClassId) (ad : Oid → Nat) (A : Nat → Prop) (x0 : Int32) (x1 : Int32) {σ : Mem} {Qr : Int32 → Mem → Prop} (hJ : J_X5_areGateAndLoss x0 x1 σ Qr) : Met l yX5_areGateAndLoss wsX5_areGateAndLoss ({ frames := 1, cells := 0, slots := 0, locals := 22 }) (va_Pc [.int x0, .int x1] (WdI D vwCl (tysX tc) idsX ad (ceX tc ad) A σ)) (va_Qi (fun (r : Int32) (u : Mem) => Qr r u) (WdO D vwCl idsX ad (ceX tc ad) A) A) 0 0 A := by
  refine V_meti (cc := cX5_areGateAndLoss) (nL := 2) (ret := (some .boolean)) (own := RX5) rfl (plainFor_of_name (by decide)) rfl rfl (Nat.le_of_ble_eq_true rfl) ?_
  intro p e s m below meth c C hr hlocks
  refine V_sub (lv' := [(0, .int x0), (1, .int x1)]) [0, 1] rfl ?_
  unfold J_X5_areGateAndLoss at hJ
  refine V_iload_n C dX5_areGateAndLoss_0 0 rfl ?_
  refine V_iconst (v := 1) C dX5_areGateAndLoss_1 ci_1 ?_
  refine V_sipush (v := 200) C dX5_areGateAndLoss_2 cs_200 ?_
  refine V_cSi (st := []) C (M_X5_isWithin l D tc ad A x0 1 200 hJ) (va_cwS 3 C.1.2.2.2.2 gX5_areGateAndLoss_X5_isWithin rfl rfl rfl (by decide +kernel) ⟨Nat.le_of_ble_eq_true rfl, Nat.le_of_ble_eq_true rfl⟩) rfl rfl (Nat.le_of_ble_eq_true rfl) dX5_areGateAndLoss_5 (fun r1 τ1 hJ => ?_)
  obtain ⟨hJt, hJf⟩ := hJ
  refine V_if_eq C (tgt := 25) dX5_areGateAndLoss_8 rfl (fun hc2 => ?_) (fun hc2 => ?_)
  · have hJ := hJt hc2; clear hJt hJf
    refine V_iconst (v := 0) C dX5_areGateAndLoss_25 ci_0 ?_
    exact V_zret C hr hlocks (Or.inl rfl) dX5_areGateAndLoss_26 hJ
  · have hJ := hJf hc2; clear hJt hJf
    refine V_iload_n C dX5_areGateAndLoss_11 1 rfl ?_
    refine V_iconst (v := 0) C dX5_areGateAndLoss_12 ci_0 ?_
    refine V_bipush (v := 50) C dX5_areGateAndLoss_13 cb_50 ?_
    refine V_cSi (st := []) C (M_X5_isWithin l D tc ad A x1 0 50 hJ) (va_cwS 3 C.1.2.2.2.2 gX5_areGateAndLoss_X5_isWithin rfl rfl rfl (by decide +kernel) ⟨Nat.le_of_ble_eq_true rfl, Nat.le_of_ble_eq_true rfl⟩) rfl rfl (Nat.le_of_ble_eq_true rfl) dX5_areGateAndLoss_15 (fun r3 τ3 hJ => ?_)
    obtain ⟨hJt, hJf⟩ := hJ
    refine V_if_eq C (tgt := 25) dX5_areGateAndLoss_18 rfl (fun hc4 => ?_) (fun hc4 => ?_)
    · have hJ := hJt hc4; clear hJt hJf
      refine V_iconst (v := 0) C dX5_areGateAndLoss_25 ci_0 ?_
      exact V_zret C hr hlocks (Or.inl rfl) dX5_areGateAndLoss_26 hJ
    · have hJ := hJf hc4; clear hJt hJf
      refine V_iconst (v := 1) C dX5_areGateAndLoss_21 ci_1 ?_
      refine V_goto C (tgt := 26) dX5_areGateAndLoss_22 rfl ?_
      exact V_zret C hr hlocks (Or.inr rfl) dX5_areGateAndLoss_26 hJ
set_option maxHeartbeats 4000000 in
set_option maxRecDepth 100000 in
theorem M_X5_addDitch (l : Launch) (D : va_G) (tc : Nat → ClassId) (ad : Oid → Nat) (A : Nat → Prop) (x1 : Int32) (x2 : Int32) (x3 : Int32) {σ : Mem} {Qr : Int32 → Mem → Prop} (hJ : J_X5_addDitch x1 x2 x3 σ Qr) : Met l yX5_addDitch wsX5_addDitch ({ frames := 2, cells := 0, slots := 0, locals := 46 }) (va_Pc [.ref (ad (0, 0, 0)), .int x1, .int x2, .int x3] (WdI D vwCl (tysX tc) idsX ad (ceX tc ad) A σ)) (va_Qi (fun (r : Int32) (u : Mem) => Qr r u) (WdO D vwCl idsX ad (ceX tc ad) A) A) 0 0 A := by
  refine V_meti (cc := cX5_addDitch) (nL := 4) (ret := (some .int)) (own := RX5) rfl (plainFor_of_name (by decide)) rfl rfl (Nat.le_of_ble_eq_true rfl) ?_
  intro p e s m below meth c C hr hlocks
  refine V_sub (lv' := [(0, .ref (ad (0, 0, 0))), (1, .int x1), (2, .int x2), (3, .int x3)]) [0, 1, 2, 3] rfl ?_
  have f10 : Cond.fieldLink RX5 10 (TX5 0).1 (TX5 0).2.1 (TX5 0).2.2.1 ∈ wsX5_addDitch := List.mem_of_getElem? (i := 1) rfl
  have uX5 : ∀ w ∈ u_ws RX5 TX5 6, w ∈ wsX5_addDitch := by decide +kernel
  have f57 : Cond.fieldLink RX5 57 (TX2 5).1 (TX2 5).2.1 (TX2 5).2.2.1 ∈ wsX5_addDitch := List.mem_of_getElem? (i := 2) rfl
  have uX2 : ∀ w ∈ u_ws RX2 TX2 10, w ∈ wsX5_addDitch := by decide +kernel
  unfold J_X5_addDitch at hJ
  refine V_aload_n C dX5_addDitch_0 0 rfl ?_
  refine V_get (ci := 5) C okX_0_0 uX5 rfl 0 (Nat.le_of_ble_eq_true rfl) rfl rfl f10 dX5_addDitch_1 ?_
  refine V_iload_n C dX5_addDitch_4 1 rfl ?_
  refine V_cVi (st := []) (ci := 2) C (ok7 (by decide)) (M_X2_hasDitch l D tc ad A 0 (by decide) x1 hJ) (cwV 1 C.1.2.2.2.2 gX5_addDitch_X2_hasDitch rfl rfl rfl (by decide +kernel) ⟨Nat.le_of_ble_eq_true rfl, Nat.le_of_ble_eq_true rfl⟩) rfl rfl rfl rfl (Nat.le_of_ble_eq_true rfl) dX5_addDitch_5 (fun r1 τ1 hJ => ?_)
  obtain ⟨hJt, hJf⟩ := hJ
  refine V_if_ne C (tgt := 14) dX5_addDitch_8 rfl (fun hc2 => ?_) (fun hc2 => ?_)
  · have hJ := hJt hc2; clear hJt hJf
    refine V_iload_n C dX5_addDitch_14 2 rfl ?_
    refine V_iload_n C dX5_addDitch_15 3 rfl ?_
    refine V_cSi (st := []) C (M_X5_areGateAndLoss l D tc ad A x2 x3 hJ) (va_cwS 2 C.1.2.2.2.2 gX5_addDitch_X5_areGateAndLoss rfl rfl rfl (by decide +kernel) ⟨Nat.le_of_ble_eq_true rfl, Nat.le_of_ble_eq_true rfl⟩) rfl rfl (Nat.le_of_ble_eq_true rfl) dX5_addDitch_16 (fun r3 τ3 hJ => ?_)
    obtain ⟨hJt, hJf⟩ := hJ
    refine V_if_ne C (tgt := 25) dX5_addDitch_19 rfl (fun hc4 => ?_) (fun hc4 => ?_)
    · have hJ := hJt hc4; clear hJt hJf
      refine V_aload_n C dX5_addDitch_25 0 rfl ?_
      refine V_get (ci := 5) C okX_0_0 uX5 rfl 0 (Nat.le_of_ble_eq_true rfl) rfl rfl f10 dX5_addDitch_26 ?_
      refine V_cVi (st := []) (ci := 2) C (ok7 (by decide)) (M_X2_hasRoomForDitch l D tc ad A 0 (by decide) hJ) (cwV 0 C.1.2.2.2.2 gX5_addDitch_X2_hasRoomForDitch rfl rfl rfl (by decide +kernel) ⟨Nat.le_of_ble_eq_true rfl, Nat.le_of_ble_eq_true rfl⟩) rfl rfl rfl rfl (Nat.le_of_ble_eq_true rfl) dX5_addDitch_29 (fun r5 τ5 hJ => ?_)
      obtain ⟨hJt, hJf⟩ := hJ
      refine V_if_ne C (tgt := 38) dX5_addDitch_32 rfl (fun hc6 => ?_) (fun hc6 => ?_)
      · have hJ := hJt hc6; clear hJt hJf
        refine V_aload_n C dX5_addDitch_38 0 rfl ?_
        refine V_get (ci := 5) C okX_0_0 uX5 rfl 0 (Nat.le_of_ble_eq_true rfl) rfl rfl f10 dX5_addDitch_39 ?_
        refine V_iload_n C dX5_addDitch_42 1 rfl ?_
        refine V_iload_n C dX5_addDitch_43 2 rfl ?_
        refine V_iload_n C dX5_addDitch_44 3 rfl ?_
        refine V_cVv (st := []) (ci := 2) C (ok7 (by decide)) (M_X2_putDitch l D tc ad A 0 (by decide) x1 x2 x3 hJ) (cwV 3 C.1.2.2.2.2 gX5_addDitch_X2_putDitch rfl rfl rfl (by decide +kernel) ⟨Nat.le_of_ble_eq_true rfl, Nat.le_of_ble_eq_true rfl⟩) rfl rfl rfl rfl (Nat.le_of_ble_eq_true rfl) dX5_addDitch_45 (fun τ7 hJ => ?_)
        refine V_aload_n C dX5_addDitch_48 0 rfl ?_
        refine V_get (ci := 5) C okX_0_0 uX5 rfl 0 (Nat.le_of_ble_eq_true rfl) rfl rfl f10 dX5_addDitch_49 ?_
        refine V_get (ci := 2) C (ok7 (by decide)) uX2 rfl 5 (Nat.le_of_ble_eq_true rfl) rfl rfl f57 dX5_addDitch_52 ?_
        refine V_iconst (v := 1) C dX5_addDitch_55 ci_1 ?_
        refine V_isub C dX5_addDitch_56 ?_
        exact V_iret C hr hlocks dX5_addDitch_57 hJ
      · have hJ := hJf hc6; clear hJt hJf
        refine V_bipush (v := (-104)) C dX5_addDitch_35 cb_m104 ?_
        exact V_iret C hr hlocks dX5_addDitch_37 hJ
    · have hJ := hJf hc4; clear hJt hJf
      refine V_bipush (v := (-102)) C dX5_addDitch_22 cb_m102 ?_
      exact V_iret C hr hlocks dX5_addDitch_24 hJ
  · have hJ := hJf hc2; clear hJt hJf
    refine V_bipush (v := (-101)) C dX5_addDitch_11 cb_m101 ?_
    exact V_iret C hr hlocks dX5_addDitch_13 hJ
set_option maxHeartbeats 4000000 in
set_option maxRecDepth 100000 in
theorem M_X5_addUser (l : Launch) (D : va_G) (tc : Nat → ClassId) (ad : Oid → Nat) (A : Nat → Prop) (x1 : Int32) (x2 : Int32) (x3 : Int32) {σ : Mem} {Qr : Int32 → Mem → Prop} (hJ : J_X5_addUser x1 x2 x3 σ Qr) : Met l yX5_addUser wsX5_addUser ({ frames := 2, cells := 0, slots := 0, locals := 47 }) (va_Pc [.ref (ad (0, 0, 0)), .int x1, .int x2, .int x3] (WdI D vwCl (tysX tc) idsX ad (ceX tc ad) A σ)) (va_Qi (fun (r : Int32) (u : Mem) => Qr r u) (WdO D vwCl idsX ad (ceX tc ad) A) A) 0 0 A := by
  refine V_meti (cc := cX5_addUser) (nL := 4) (ret := (some .int)) (own := RX5) rfl (plainFor_of_name (by decide)) rfl rfl (Nat.le_of_ble_eq_true rfl) ?_
  intro p e s m below meth c C hr hlocks
  refine V_sub (lv' := [(0, .ref (ad (0, 0, 0))), (1, .int x1), (2, .int x2), (3, .int x3)]) [0, 1, 2, 3] rfl ?_
  have f10 : Cond.fieldLink RX5 10 (TX5 0).1 (TX5 0).2.1 (TX5 0).2.2.1 ∈ wsX5_addUser := List.mem_of_getElem? (i := 1) rfl
  have uX5 : ∀ w ∈ u_ws RX5 TX5 6, w ∈ wsX5_addUser := by decide +kernel
  have f83 : Cond.fieldLink RX5 83 (TX2 6).1 (TX2 6).2.1 (TX2 6).2.2.1 ∈ wsX5_addUser := List.mem_of_getElem? (i := 2) rfl
  have uX2 : ∀ w ∈ u_ws RX2 TX2 10, w ∈ wsX5_addUser := by decide +kernel
  unfold J_X5_addUser at hJ
  refine V_aload_n C dX5_addUser_0 0 rfl ?_
  refine V_get (ci := 5) C okX_0_0 uX5 rfl 0 (Nat.le_of_ble_eq_true rfl) rfl rfl f10 dX5_addUser_1 ?_
  refine V_iload_n C dX5_addUser_4 1 rfl ?_
  refine V_cVi (st := []) (ci := 2) C (ok7 (by decide)) (M_X2_hasDitch l D tc ad A 0 (by decide) x1 hJ) (cwV 1 C.1.2.2.2.2 gX5_addUser_X2_hasDitch rfl rfl rfl (by decide +kernel) ⟨Nat.le_of_ble_eq_true rfl, Nat.le_of_ble_eq_true rfl⟩) rfl rfl rfl rfl (Nat.le_of_ble_eq_true rfl) dX5_addUser_5 (fun r1 τ1 hJ => ?_)
  obtain ⟨hJt, hJf⟩ := hJ
  refine V_if_ne C (tgt := 14) dX5_addUser_8 rfl (fun hc2 => ?_) (fun hc2 => ?_)
  · have hJ := hJt hc2; clear hJt hJf
    refine V_iload_n C dX5_addUser_14 2 rfl ?_
    refine V_sipush (v := 1800) C dX5_addUser_15 cs_1800 ?_
    refine V_sipush (v := 2099) C dX5_addUser_18 cs_2099 ?_
    refine V_cSi (st := []) C (M_X5_isWithin l D tc ad A x2 1800 2099 hJ) (va_cwS 3 C.1.2.2.2.2 gX5_addUser_X5_isWithin rfl rfl rfl (by decide +kernel) ⟨Nat.le_of_ble_eq_true rfl, Nat.le_of_ble_eq_true rfl⟩) rfl rfl (Nat.le_of_ble_eq_true rfl) dX5_addUser_21 (fun r3 τ3 hJ => ?_)
    obtain ⟨hJt, hJf⟩ := hJ
    refine V_if_eq C (tgt := 37) dX5_addUser_24 rfl (fun hc4 => ?_) (fun hc4 => ?_)
    · have hJ := hJt hc4; clear hJt hJf
      refine V_bipush (v := (-102)) C dX5_addUser_37 cb_m102 ?_
      exact V_iret C hr hlocks dX5_addUser_39 hJ
    · have hJ := hJf hc4; clear hJt hJf
      refine V_iload_n C dX5_addUser_27 3 rfl ?_
      refine V_iconst (v := 0) C dX5_addUser_28 ci_0 ?_
      refine V_bipush (v := 60) C dX5_addUser_29 cb_60 ?_
      refine V_cSi (st := []) C (M_X5_isWithin l D tc ad A x3 0 60 hJ) (va_cwS 3 C.1.2.2.2.2 gX5_addUser_X5_isWithin rfl rfl rfl (by decide +kernel) ⟨Nat.le_of_ble_eq_true rfl, Nat.le_of_ble_eq_true rfl⟩) rfl rfl (Nat.le_of_ble_eq_true rfl) dX5_addUser_31 (fun r5 τ5 hJ => ?_)
      obtain ⟨hJt, hJf⟩ := hJ
      refine V_if_ne C (tgt := 40) dX5_addUser_34 rfl (fun hc6 => ?_) (fun hc6 => ?_)
      · have hJ := hJt hc6; clear hJt hJf
        refine V_aload_n C dX5_addUser_40 0 rfl ?_
        refine V_get (ci := 5) C okX_0_0 uX5 rfl 0 (Nat.le_of_ble_eq_true rfl) rfl rfl f10 dX5_addUser_41 ?_
        refine V_cVi (st := []) (ci := 2) C (ok7 (by decide)) (M_X2_hasRoomForUser l D tc ad A 0 (by decide) hJ) (cwV 0 C.1.2.2.2.2 gX5_addUser_X2_hasRoomForUser rfl rfl rfl (by decide +kernel) ⟨Nat.le_of_ble_eq_true rfl, Nat.le_of_ble_eq_true rfl⟩) rfl rfl rfl rfl (Nat.le_of_ble_eq_true rfl) dX5_addUser_44 (fun r7 τ7 hJ => ?_)
        obtain ⟨hJt, hJf⟩ := hJ
        refine V_if_ne C (tgt := 53) dX5_addUser_47 rfl (fun hc8 => ?_) (fun hc8 => ?_)
        · have hJ := hJt hc8; clear hJt hJf
          refine V_aload_n C dX5_addUser_53 0 rfl ?_
          refine V_get (ci := 5) C okX_0_0 uX5 rfl 0 (Nat.le_of_ble_eq_true rfl) rfl rfl f10 dX5_addUser_54 ?_
          refine V_iload_n C dX5_addUser_57 1 rfl ?_
          refine V_iload_n C dX5_addUser_58 2 rfl ?_
          refine V_iload_n C dX5_addUser_59 3 rfl ?_
          refine V_cVv (st := []) (ci := 2) C (ok7 (by decide)) (M_X2_putUser l D tc ad A 0 (by decide) x1 x2 x3 hJ) (cwV 3 C.1.2.2.2.2 gX5_addUser_X2_putUser rfl rfl rfl (by decide +kernel) ⟨Nat.le_of_ble_eq_true rfl, Nat.le_of_ble_eq_true rfl⟩) rfl rfl rfl rfl (Nat.le_of_ble_eq_true rfl) dX5_addUser_60 (fun τ9 hJ => ?_)
          refine V_aload_n C dX5_addUser_63 0 rfl ?_
          refine V_get (ci := 5) C okX_0_0 uX5 rfl 0 (Nat.le_of_ble_eq_true rfl) rfl rfl f10 dX5_addUser_64 ?_
          refine V_get (ci := 2) C (ok7 (by decide)) uX2 rfl 6 (Nat.le_of_ble_eq_true rfl) rfl rfl f83 dX5_addUser_67 ?_
          refine V_iconst (v := 1) C dX5_addUser_70 ci_1 ?_
          refine V_isub C dX5_addUser_71 ?_
          exact V_iret C hr hlocks dX5_addUser_72 hJ
        · have hJ := hJf hc8; clear hJt hJf
          refine V_bipush (v := (-104)) C dX5_addUser_50 cb_m104 ?_
          exact V_iret C hr hlocks dX5_addUser_52 hJ
      · have hJ := hJf hc6; clear hJt hJf
        refine V_bipush (v := (-102)) C dX5_addUser_37 cb_m102 ?_
        exact V_iret C hr hlocks dX5_addUser_39 hJ
  · have hJ := hJf hc2; clear hJt hJf
    refine V_bipush (v := (-101)) C dX5_addUser_11 cb_m101 ?_
    exact V_iret C hr hlocks dX5_addUser_13 hJ
set_option maxHeartbeats 4000000 in
set_option maxRecDepth 100000 in
theorem M_X5_advance (l : Launch) (D : va_G) (tc : Nat → ClassId) (ad : Oid → Nat) (A : Nat → Prop) (x1 : Int32) {σ : Mem} {Qr : Int32 → Mem → Prop} (hJ : J_X5_advance x1 σ Qr) : Met l yX5_advance wsX5_advance ({ frames := 5, cells := 0, slots := 0, locals := 116 }) (va_Pc [.ref (ad (0, 0, 0)), .int x1] (WdI D vwCl (tysX tc) idsX ad (ceX tc ad) A σ)) (va_Qi (fun (r : Int32) (u : Mem) => Qr r u) (WdO D vwCl idsX ad (ceX tc ad) A) A) 0 0 A := by
  refine V_meti (cc := cX5_advance) (nL := 4) (ret := (some .int)) (own := RX5) rfl (plainFor_of_name (by decide)) rfl rfl (Nat.le_of_ble_eq_true rfl) ?_
  intro p e s m below meth c C hr hlocks
  refine V_sub (lv' := [(0, .ref (ad (0, 0, 0))), (1, .int x1)]) [0, 1] rfl ?_
  have f10 : Cond.fieldLink RX5 10 (TX5 0).1 (TX5 0).2.1 (TX5 0).2.2.1 ∈ wsX5_advance := List.mem_of_getElem? (i := 1) rfl
  have uX5 : ∀ w ∈ u_ws RX5 TX5 6, w ∈ wsX5_advance := by decide +kernel
  have f30 : Cond.fieldLink RX5 30 (TX5 4).1 (TX5 4).2.1 (TX5 4).2.2.1 ∈ wsX5_advance := List.mem_of_getElem? (i := 2) rfl
  unfold J_X5_advance at hJ
  refine V_iload_n C dX5_advance_0 1 rfl ?_
  refine V_iconst (v := 1) C dX5_advance_1 ci_1 ?_
  refine V_bipush (v := 48) C dX5_advance_2 cb_48 ?_
  refine V_cSi (st := []) C (M_X5_isWithin l D tc ad A x1 1 48 hJ) (va_cwS 3 C.1.2.2.2.2 gX5_advance_X5_isWithin rfl rfl rfl (by decide +kernel) ⟨Nat.le_of_ble_eq_true rfl, Nat.le_of_ble_eq_true rfl⟩) rfl rfl (Nat.le_of_ble_eq_true rfl) dX5_advance_4 (fun r1 τ1 hJ => ?_)
  obtain ⟨hJt, hJf⟩ := hJ
  refine V_if_ne C (tgt := 13) dX5_advance_7 rfl (fun hc2 => ?_) (fun hc2 => ?_)
  · have hJ := hJt hc2; clear hJt hJf
    refine V_iconst (v := 0) C dX5_advance_13 ci_0 ?_
    refine V_istore_n (lv' := [(2, .int 0), (0, .ref (ad (0, 0, 0))), (1, .int x1)]) C dX5_advance_14 (by decide) rfl ?_
    refine V_iconst (v := 0) C dX5_advance_15 ci_0 ?_
    refine V_istore_n (lv' := [(3, .int 0), (2, .int 0), (0, .ref (ad (0, 0, 0))), (1, .int x1)]) C dX5_advance_16 (by decide) rfl ?_
    refine V_sub (lv' := [(0, .ref (ad (0, 0, 0))), (1, .int x1), (2, .int 0), (3, .int 0)]) [2, 3, 1, 0] rfl ?_
    obtain ⟨I17, μ17, hI17, hst17⟩ := hJ
    have L17 : ∀ (n : Nat) (x2_3 : Int32) (x3_3 : Int32) (τ3 : Mem), μ17 x2_3 x3_3 τ3 < n → I17 x2_3 x3_3 τ3 → VV p l e (headSpec wsX5_advance ({ frames := 5, cells := 0, slots := 0, locals := 116 })).room s m ([.ref (ad (0, 0, 0)), .int x1] : List Value).toArray below meth c D vwCl idsX ad (ceX tc ad) A (MQ below (va_Qi (fun (r : Int32) (u : Mem) => Qr r u) (WdO D vwCl idsX ad (ceX tc ad) A) A) ([.ref (ad (0, 0, 0)), .int x1] : List Value).toArray s 0 0 A) 4 17 [(0, .ref (ad (0, 0, 0))), (1, .int x1), (2, .int x2_3), (3, .int x3_3)] [] τ3 := by
      intro n
      induction n with
      | zero => intro x2_3 x3_3 τ3 hμ _; exact absurd hμ (Nat.not_lt_zero _)
      | succ n ihn =>
        intro x2_3 x3_3 τ3 hμ17 hJ
        have ih17 := ihn
        replace hJ := hst17 x2_3 x3_3 τ3 hJ
        refine V_iload_n C dX5_advance_17 3 rfl ?_
        refine V_iload_n C dX5_advance_18 1 rfl ?_
        obtain ⟨hJt, hJf⟩ := hJ
        refine V_icmp_ge C (tgt := 42) dX5_advance_19 rfl (fun hc4 => ?_) (fun hc4 => ?_)
        · have hJ := hJt hc4; clear hJt hJf
          refine V_iload_n C dX5_advance_42 2 rfl ?_
          exact V_iret C hr hlocks dX5_advance_43 hJ
        · have hJ := hJf hc4; clear hJt hJf
          refine V_iload_n C dX5_advance_22 2 rfl ?_
          refine V_aload_n C dX5_advance_23 0 rfl ?_
          refine V_get (ci := 5) C okX_0_0 uX5 rfl 0 (Nat.le_of_ble_eq_true rfl) rfl rfl f10 dX5_advance_24 ?_
          refine V_aload_n C dX5_advance_27 0 rfl ?_
          refine V_get (ci := 5) C okX_0_0 uX5 rfl 4 (Nat.le_of_ble_eq_true rfl) rfl rfl f30 dX5_advance_28 ?_
          refine V_cVi (st := [.int x2_3]) (ci := 2) C (ok7 (by decide)) (M_X2_passHour l D tc ad A 0 (by decide) hJ) (cwV 1 C.1.2.2.2.2 gX5_advance_X2_passHour rfl rfl rfl (by decide +kernel) ⟨Nat.le_of_ble_eq_true rfl, Nat.le_of_ble_eq_true rfl⟩) rfl rfl rfl rfl (Nat.le_of_ble_eq_true rfl) dX5_advance_31 (fun r5 τ5 hJ => ?_)
          refine V_iadd C dX5_advance_34 ?_
          refine V_topi (fun x2_6 hx2_6 => ?_)
          replace hJ := hJ x2_6 hx2_6
          refine V_istore_n (lv' := [(2, .int x2_6), (0, .ref (ad (0, 0, 0))), (1, .int x1), (3, .int x3_3)]) C dX5_advance_35 (by decide) rfl ?_
          obtain ⟨x3_7, hx3_7⟩ : ∃ y : Int32, y = x3_3 + 1 := ⟨_, rfl⟩
          replace hJ := hJ x3_7 hx3_7
          refine V_iinc (v := x3_7) (lv' := [(3, .int x3_7), (2, .int x2_6), (0, .ref (ad (0, 0, 0))), (1, .int x1)]) C dX5_advance_36 3 rfl (by rw [hx3_7]; exact congrArg _ ci_1) (by decide) rfl ?_
          refine V_goto C (tgt := 17) dX5_advance_39 rfl ?_
          refine V_sub (lv' := [(0, .ref (ad (0, 0, 0))), (1, .int x1), (2, .int x2_6), (3, .int x3_7)]) [2, 3, 1, 0] rfl ?_
          exact ih17 x2_6 x3_7 τ5 (Nat.lt_of_lt_of_le hJ.2 (Nat.le_of_lt_succ hμ17)) hJ.1
    exact L17 _ 0 0 τ1 (Nat.lt_succ_self _) hI17
  · have hJ := hJf hc2; clear hJt hJf
    refine V_bipush (v := (-102)) C dX5_advance_10 cb_m102 ?_
    exact V_iret C hr hlocks dX5_advance_12 hJ
set_option maxHeartbeats 4000000 in
set_option maxRecDepth 100000 in
theorem M_X5_append (l : Launch) (D : va_G) (tc : Nat → ClassId) (ad : Oid → Nat) (A : Nat → Prop) (x1 : Int32) {σ : Mem} {Qr : Int32 → Mem → Prop} (hJ : J_X5_append x1 σ Qr) : Met l yX5_append wsX5_append ({ frames := 2, cells := 0, slots := 0, locals := 41 }) (va_Pc [.ref (ad (0, 0, 0)), .int x1] (WdI D vwCl (tysX tc) idsX ad (ceX tc ad) A σ)) (va_Qi (fun (r : Int32) (u : Mem) => Qr r u) (WdO D vwCl idsX ad (ceX tc ad) A) A) 0 0 A := by
  refine V_meti (cc := cX5_append) (nL := 2) (ret := (some .int)) (own := RX5) rfl (plainFor_of_name (by decide)) rfl rfl (Nat.le_of_ble_eq_true rfl) ?_
  intro p e s m below meth c C hr hlocks
  refine V_sub (lv' := [(0, .ref (ad (0, 0, 0))), (1, .int x1)]) [0, 1] rfl ?_
  have f37 : Cond.fieldLink RX5 37 (TX5 5).1 (TX5 5).2.1 (TX5 5).2.2.1 ∈ wsX5_append := List.mem_of_getElem? (i := 1) rfl
  have uX5 : ∀ w ∈ u_ws RX5 TX5 6, w ∈ wsX5_append := by decide +kernel
  have f214 : Cond.fieldLink RX5 214 (TX3 0).1 (TX3 0).2.1 (TX3 0).2.2.1 ∈ wsX5_append := List.mem_of_getElem? (i := 2) rfl
  have uX3 : ∀ w ∈ u_ws RX3 TX3 5, w ∈ wsX5_append := by decide +kernel
  unfold J_X5_append at hJ
  refine V_iload_n C dX5_append_0 1 rfl ?_
  refine V_iconst (v := 0) C dX5_append_1 ci_0 ?_
  refine V_bipush (v := 127) C dX5_append_2 cb_127 ?_
  refine V_cSi (st := []) C (M_X5_isWithin l D tc ad A x1 0 127 hJ) (va_cwS 3 C.1.2.2.2.2 gX5_append_X5_isWithin rfl rfl rfl (by decide +kernel) ⟨Nat.le_of_ble_eq_true rfl, Nat.le_of_ble_eq_true rfl⟩) rfl rfl (Nat.le_of_ble_eq_true rfl) dX5_append_4 (fun r1 τ1 hJ => ?_)
  obtain ⟨hJt, hJf⟩ := hJ
  refine V_if_ne C (tgt := 13) dX5_append_7 rfl (fun hc2 => ?_) (fun hc2 => ?_)
  · have hJ := hJt hc2; clear hJt hJf
    refine V_aload_n C dX5_append_13 0 rfl ?_
    refine V_get (ci := 5) C okX_0_0 uX5 rfl 5 (Nat.le_of_ble_eq_true rfl) rfl rfl f37 dX5_append_14 ?_
    refine V_cVi (st := []) (ci := 3) C okX_5_0 (M_X3_isFull l D tc ad A  hJ) (cwV 0 C.1.2.2.2.2 gX5_append_X3_isFull rfl rfl rfl (by decide +kernel) ⟨Nat.le_of_ble_eq_true rfl, Nat.le_of_ble_eq_true rfl⟩) rfl rfl rfl rfl (Nat.le_of_ble_eq_true rfl) dX5_append_17 (fun r3 τ3 hJ => ?_)
    obtain ⟨hJt, hJf⟩ := hJ
    refine V_if_eq C (tgt := 26) dX5_append_20 rfl (fun hc4 => ?_) (fun hc4 => ?_)
    · have hJ := hJt hc4; clear hJt hJf
      refine V_aload_n C dX5_append_26 0 rfl ?_
      refine V_get (ci := 5) C okX_0_0 uX5 rfl 5 (Nat.le_of_ble_eq_true rfl) rfl rfl f37 dX5_append_27 ?_
      refine V_iload_n C dX5_append_30 1 rfl ?_
      refine V_cVv (st := []) (ci := 3) C okX_5_0 (M_X3_put l D tc ad A x1 hJ) (cwV 1 C.1.2.2.2.2 gX5_append_X3_put rfl rfl rfl (by decide +kernel) ⟨Nat.le_of_ble_eq_true rfl, Nat.le_of_ble_eq_true rfl⟩) rfl rfl rfl rfl (Nat.le_of_ble_eq_true rfl) dX5_append_31 (fun τ5 hJ => ?_)
      refine V_aload_n C dX5_append_34 0 rfl ?_
      refine V_get (ci := 5) C okX_0_0 uX5 rfl 5 (Nat.le_of_ble_eq_true rfl) rfl rfl f37 dX5_append_35 ?_
      refine V_get (ci := 3) C okX_5_0 uX3 rfl 0 (Nat.le_of_ble_eq_true rfl) rfl rfl f214 dX5_append_38 ?_
      exact V_iret C hr hlocks dX5_append_41 hJ
    · have hJ := hJf hc4; clear hJt hJf
      refine V_bipush (v := (-104)) C dX5_append_23 cb_m104 ?_
      exact V_iret C hr hlocks dX5_append_25 hJ
  · have hJ := hJf hc2; clear hJt hJf
    refine V_bipush (v := (-102)) C dX5_append_10 cb_m102 ?_
    exact V_iret C hr hlocks dX5_append_12 hJ
set_option maxHeartbeats 4000000 in
set_option maxRecDepth 100000 in
theorem M_X5_areHours (l : Launch) (D : va_G) (tc : Nat → ClassId) (ad : Oid → Nat) (A : Nat → Prop) (x0 : Int32) (x1 : Int32) {σ : Mem} {Qr : Int32 → Mem → Prop} (hJ : J_X5_areHours x0 x1 σ Qr) : Met l yX5_areHours wsX5_areHours ({ frames := 1, cells := 0, slots := 0, locals := 22 }) (va_Pc [.int x0, .int x1] (WdI D vwCl (tysX tc) idsX ad (ceX tc ad) A σ)) (va_Qi (fun (r : Int32) (u : Mem) => Qr r u) (WdO D vwCl idsX ad (ceX tc ad) A) A) 0 0 A := by
  refine V_meti (cc := cX5_areHours) (nL := 2) (ret := (some .boolean)) (own := RX5) rfl (plainFor_of_name (by decide)) rfl rfl (Nat.le_of_ble_eq_true rfl) ?_
  intro p e s m below meth c C hr hlocks
  refine V_sub (lv' := [(0, .int x0), (1, .int x1)]) [0, 1] rfl ?_
  unfold J_X5_areHours at hJ
  refine V_iload_n C dX5_areHours_0 0 rfl ?_
  refine V_iconst (v := 0) C dX5_areHours_1 ci_0 ?_
  refine V_bipush (v := 23) C dX5_areHours_2 cb_23 ?_
  refine V_cSi (st := []) C (M_X5_isWithin l D tc ad A x0 0 23 hJ) (va_cwS 3 C.1.2.2.2.2 gX5_areHours_X5_isWithin rfl rfl rfl (by decide +kernel) ⟨Nat.le_of_ble_eq_true rfl, Nat.le_of_ble_eq_true rfl⟩) rfl rfl (Nat.le_of_ble_eq_true rfl) dX5_areHours_4 (fun r1 τ1 hJ => ?_)
  obtain ⟨hJt, hJf⟩ := hJ
  refine V_if_eq C (tgt := 25) dX5_areHours_7 rfl (fun hc2 => ?_) (fun hc2 => ?_)
  · have hJ := hJt hc2; clear hJt hJf
    refine V_iconst (v := 0) C dX5_areHours_25 ci_0 ?_
    exact V_zret C hr hlocks (Or.inl rfl) dX5_areHours_26 hJ
  · have hJ := hJf hc2; clear hJt hJf
    refine V_iload_n C dX5_areHours_10 1 rfl ?_
    refine V_iload_n C dX5_areHours_11 0 rfl ?_
    obtain ⟨hJt, hJf⟩ := hJ
    refine V_icmp_le C (tgt := 25) dX5_areHours_12 rfl (fun hc3 => ?_) (fun hc3 => ?_)
    · have hJ := hJt hc3; clear hJt hJf
      refine V_iconst (v := 0) C dX5_areHours_25 ci_0 ?_
      exact V_zret C hr hlocks (Or.inl rfl) dX5_areHours_26 hJ
    · have hJ := hJf hc3; clear hJt hJf
      refine V_iload_n C dX5_areHours_15 1 rfl ?_
      refine V_bipush (v := 24) C dX5_areHours_16 cb_24 ?_
      obtain ⟨hJt, hJf⟩ := hJ
      refine V_icmp_gt C (tgt := 25) dX5_areHours_18 rfl (fun hc4 => ?_) (fun hc4 => ?_)
      · have hJ := hJt hc4; clear hJt hJf
        refine V_iconst (v := 0) C dX5_areHours_25 ci_0 ?_
        exact V_zret C hr hlocks (Or.inl rfl) dX5_areHours_26 hJ
      · have hJ := hJf hc4; clear hJt hJf
        refine V_iconst (v := 1) C dX5_areHours_21 ci_1 ?_
        refine V_goto C (tgt := 26) dX5_areHours_22 rfl ?_
        exact V_zret C hr hlocks (Or.inr rfl) dX5_areHours_26 hJ
set_option maxHeartbeats 4000000 in
set_option maxRecDepth 100000 in
theorem M_X5_asks (l : Launch) (D : va_G) (tc : Nat → ClassId) (ad : Oid → Nat) (A : Nat → Prop) (x1 : Int32) {σ : Mem} {Qr : Int32 → Mem → Prop} (hJ : J_X5_asks x1 σ Qr) : Met l yX5_asks wsX5_asks ({ frames := 3, cells := 0, slots := 0, locals := 66 }) (va_Pc [.ref (ad (0, 0, 0)), .int x1] (WdI D vwCl (tysX tc) idsX ad (ceX tc ad) A σ)) (va_Qi (fun (r : Int32) (u : Mem) => Qr r u) (WdO D vwCl idsX ad (ceX tc ad) A) A) 0 0 A := by
  refine V_meti (cc := cX5_asks) (nL := 2) (ret := (some .int)) (own := RX5) rfl (plainFor_of_name (by decide)) rfl rfl (Nat.le_of_ble_eq_true rfl) ?_
  intro p e s m below meth c C hr hlocks
  refine V_sub (lv' := [(0, .ref (ad (0, 0, 0))), (1, .int x1)]) [0, 1] rfl ?_
  have f10 : Cond.fieldLink RX5 10 (TX5 0).1 (TX5 0).2.1 (TX5 0).2.2.1 ∈ wsX5_asks := List.mem_of_getElem? (i := 1) rfl
  have uX5 : ∀ w ∈ u_ws RX5 TX5 6, w ∈ wsX5_asks := by decide +kernel
  unfold J_X5_asks at hJ
  refine V_aload_n C dX5_asks_0 0 rfl ?_
  refine V_get (ci := 5) C okX_0_0 uX5 rfl 0 (Nat.le_of_ble_eq_true rfl) rfl rfl f10 dX5_asks_1 ?_
  refine V_iload_n C dX5_asks_4 1 rfl ?_
  refine V_cVi (st := []) (ci := 2) C (ok7 (by decide)) (M_X2_hasUser l D tc ad A 0 (by decide) x1 hJ) (cwV 1 C.1.2.2.2.2 gX5_asks_X2_hasUser rfl rfl rfl (by decide +kernel) ⟨Nat.le_of_ble_eq_true rfl, Nat.le_of_ble_eq_true rfl⟩) rfl rfl rfl rfl (Nat.le_of_ble_eq_true rfl) dX5_asks_5 (fun r1 τ1 hJ => ?_)
  obtain ⟨hJt, hJf⟩ := hJ
  refine V_if_ne C (tgt := 14) dX5_asks_8 rfl (fun hc2 => ?_) (fun hc2 => ?_)
  · have hJ := hJt hc2; clear hJt hJf
    refine V_aload_n C dX5_asks_14 0 rfl ?_
    refine V_get (ci := 5) C okX_0_0 uX5 rfl 0 (Nat.le_of_ble_eq_true rfl) rfl rfl f10 dX5_asks_15 ?_
    refine V_iload_n C dX5_asks_18 1 rfl ?_
    refine V_aload_n C dX5_asks_19 0 rfl ?_
    refine V_get (ci := 5) C okX_0_0 uX5 rfl 0 (Nat.le_of_ble_eq_true rfl) rfl rfl f10 dX5_asks_20 ?_
    refine V_cVi (st := [.int x1, .ref (ad (7, 0, 0))]) (ci := 2) C (ok7 (by decide)) (M_X2_userInTurn l D tc ad A 0 (by decide) hJ) (cwV 0 C.1.2.2.2.2 gX5_asks_X2_userInTurn rfl rfl rfl (by decide +kernel) ⟨Nat.le_of_ble_eq_true rfl, Nat.le_of_ble_eq_true rfl⟩) rfl rfl rfl rfl (Nat.le_of_ble_eq_true rfl) dX5_asks_23 (fun r3 τ3 hJ => ?_)
    refine V_cVi (st := []) (ci := 2) C (ok7 (by decide)) (M_X2_unitsAsked l D tc ad A 0 (by decide) x1 r3 hJ) (cwV 2 C.1.2.2.2.2 gX5_asks_X2_unitsAsked rfl rfl rfl (by decide +kernel) ⟨Nat.le_of_ble_eq_true rfl, Nat.le_of_ble_eq_true rfl⟩) rfl rfl rfl rfl (Nat.le_of_ble_eq_true rfl) dX5_asks_26 (fun r4 τ4 hJ => ?_)
    exact V_iret C hr hlocks dX5_asks_29 hJ
  · have hJ := hJf hc2; clear hJt hJf
    refine V_bipush (v := (-101)) C dX5_asks_11 cb_m101 ?_
    exact V_iret C hr hlocks dX5_asks_13 hJ
set_option maxHeartbeats 4000000 in
set_option maxRecDepth 100000 in
theorem M_X5_withUser (l : Launch) (D : va_G) (tc : Nat → ClassId) (ad : Oid → Nat) (A : Nat → Prop) (y1 : Int64) (x3 : Int32) {σ : Mem} {Qr : Int64 → Mem → Prop} (hJ : J_X5_withUser y1 x3 σ Qr) : Met l yX5_withUser wsX5_withUser ({ frames := 0, cells := 0, slots := 0, locals := 0 }) (va_Pc [.ref (ad (0, 0, 0)), .long y1, .int x3] (WdI D vwCl (tysX tc) idsX ad (ceX tc ad) A σ)) (va_Ql (fun (r : Int64) (u : Mem) => Qr r u) (WdO D vwCl idsX ad (ceX tc ad) A) A) 0 0 A := by
  refine V_metl (cc := cX5_withUser) (nL := 7) (ret := (some .long)) (own := RX5) rfl (plainFor_of_name (by decide)) rfl rfl (Nat.le_of_ble_eq_true rfl) ?_
  intro p e s m below meth c C hr hlocks
  refine V_sub (lv' := [(0, .ref (ad (0, 0, 0))), (1, .long y1), (3, .int x3)]) [0, 1, 2] rfl ?_
  have f10 : Cond.fieldLink RX5 10 (TX5 0).1 (TX5 0).2.1 (TX5 0).2.2.1 ∈ wsX5_withUser := List.mem_of_getElem? (i := 1) rfl
  have uX5 : ∀ w ∈ u_ws RX5 TX5 6, w ∈ wsX5_withUser := by decide +kernel
  have f92 : Cond.fieldLink RX5 92 (TX2 1).1 (TX2 1).2.1 (TX2 1).2.2.1 ∈ wsX5_withUser := List.mem_of_getElem? (i := 2) rfl
  have uX2 : ∀ w ∈ u_ws RX2 TX2 10, w ∈ wsX5_withUser := by decide +kernel
  have f30 : Cond.fieldLink RX5 30 (TX5 4).1 (TX5 4).2.1 (TX5 4).2.2.1 ∈ wsX5_withUser := List.mem_of_getElem? (i := 4) rfl
  have f234 : Cond.fieldLink RX5 234 (TX1 0).1 (TX1 0).2.1 (TX1 0).2.2.1 ∈ wsX5_withUser := List.mem_of_getElem? (i := 5) rfl
  have uX1 : ∀ w ∈ u_ws RX1 TX1 6, w ∈ wsX5_withUser := by decide +kernel
  have f155 : Cond.fieldLink RX5 155 (TX1 1).1 (TX1 1).2.1 (TX1 1).2.2.1 ∈ wsX5_withUser := List.mem_of_getElem? (i := 6) rfl
  have f113 : Cond.fieldLink RX5 113 (TX4 7).1 (TX4 7).2.1 (TX4 7).2.2.1 ∈ wsX5_withUser := List.mem_of_getElem? (i := 7) rfl
  have uX4 : ∀ w ∈ u_ws RX4 TX4 12, w ∈ wsX5_withUser := by decide +kernel
  have f188 : Cond.fieldLink RX5 188 (TX4 10).1 (TX4 10).2.1 (TX4 10).2.2.1 ∈ wsX5_withUser := List.mem_of_getElem? (i := 8) rfl
  have f203 : Cond.fieldLink RX5 203 (TX4 11).1 (TX4 11).2.1 (TX4 11).2.2.1 ∈ wsX5_withUser := List.mem_of_getElem? (i := 9) rfl
  unfold J_X5_withUser at hJ
  refine V_aload_n C dX5_withUser_0 0 rfl ?_
  refine V_get (ci := 5) C okX_0_0 uX5 rfl 0 (Nat.le_of_ble_eq_true rfl) rfl rfl f10 dX5_withUser_1 ?_
  refine V_get (ci := 2) C (ok7 (by decide)) uX2 rfl 1 (Nat.le_of_ble_eq_true rfl) rfl rfl f92 dX5_withUser_4 ?_
  refine V_iload_n C dX5_withUser_7 2 rfl ?_
  obtain ⟨hv1, hJ⟩ := hJ
  refine V_aald (o' := (14, 0, x3.toNatClampNeg)) C (ok9 (by decide)) 4 rfl rfl hv1 rfl dX5_withUser_8 ?_
  refine V_astore (lv' := [(4, .ref (ad (14, 0, x3.toNatClampNeg))), (0, .ref (ad (0, 0, 0))), (1, .long y1), (3, .int x3)]) C dX5_withUser_9 (by decide) rfl ?_
  refine V_lload_n C dX5_withUser_11 2 rfl ?_
  refine V_lstore (lv' := [(5, .long y1), (4, .ref (ad (14, 0, x3.toNatClampNeg))), (0, .ref (ad (0, 0, 0))), (1, .long y1), (3, .int x3)]) C dX5_withUser_12 (by decide) rfl ?_
  refine V_ldc2 (v := 31) C (List.mem_of_getElem? (i := 3) rfl) dX5_withUser_14 ?_
  refine V_lload C dX5_withUser_17 0 rfl ?_
  refine V_lmul C dX5_withUser_19 ?_
  refine V_aload_n C dX5_withUser_20 2 rfl ?_
  refine V_get (ci := 5) C okX_0_0 uX5 rfl 4 (Nat.le_of_ble_eq_true rfl) rfl rfl f30 dX5_withUser_21 ?_
  refine V_get (ci := 1) C okX_3_0 uX1 rfl 0 (Nat.le_of_ble_eq_true rfl) rfl rfl f234 dX5_withUser_24 ?_
  refine V_iload_n C dX5_withUser_27 4 rfl ?_
  obtain ⟨hv2, hJ⟩ := hJ
  refine V_iald C okX_4_0 0 rfl rfl rfl hv2 dX5_withUser_28 ?_
  refine V_i2l C dX5_withUser_29 ?_
  refine V_ladd C dX5_withUser_30 ?_
  refine V_topl (fun y5_3 hy5_3 => ?_)
  replace hJ := hJ y5_3 hy5_3
  refine V_lstore (lv' := [(5, .long y5_3), (4, .ref (ad (14, 0, x3.toNatClampNeg))), (0, .ref (ad (0, 0, 0))), (1, .long y1), (3, .int x3)]) C dX5_withUser_31 (by decide) rfl ?_
  refine V_ldc2 (v := 31) C (List.mem_of_getElem? (i := 3) rfl) dX5_withUser_33 ?_
  refine V_lload C dX5_withUser_36 0 rfl ?_
  refine V_lmul C dX5_withUser_38 ?_
  refine V_aload_n C dX5_withUser_39 2 rfl ?_
  refine V_get (ci := 5) C okX_0_0 uX5 rfl 4 (Nat.le_of_ble_eq_true rfl) rfl rfl f30 dX5_withUser_40 ?_
  refine V_get (ci := 1) C okX_3_0 uX1 rfl 1 (Nat.le_of_ble_eq_true rfl) rfl rfl f155 dX5_withUser_43 ?_
  refine V_iload_n C dX5_withUser_46 4 rfl ?_
  obtain ⟨hv4, hJ⟩ := hJ
  refine V_iald C okX_4_1 0 rfl rfl rfl hv4 dX5_withUser_47 ?_
  refine V_i2l C dX5_withUser_48 ?_
  refine V_ladd C dX5_withUser_49 ?_
  refine V_topl (fun y5_5 hy5_5 => ?_)
  replace hJ := hJ y5_5 hy5_5
  refine V_lstore (lv' := [(5, .long y5_5), (4, .ref (ad (14, 0, x3.toNatClampNeg))), (0, .ref (ad (0, 0, 0))), (1, .long y1), (3, .int x3)]) C dX5_withUser_50 (by decide) rfl ?_
  refine V_ldc2 (v := 31) C (List.mem_of_getElem? (i := 3) rfl) dX5_withUser_52 ?_
  refine V_lload C dX5_withUser_55 0 rfl ?_
  refine V_lmul C dX5_withUser_57 ?_
  refine V_aload C dX5_withUser_58 1 rfl ?_
  refine V_get (ci := 4) C (ok14 (by decide) (vp_lt hv1)) uX4 rfl 7 (Nat.le_of_ble_eq_true rfl) rfl rfl f113 dX5_withUser_60 ?_
  refine V_i2l C dX5_withUser_63 ?_
  refine V_ladd C dX5_withUser_64 ?_
  refine V_topl (fun y5_6 hy5_6 => ?_)
  replace hJ := hJ y5_6 hy5_6
  refine V_lstore (lv' := [(5, .long y5_6), (4, .ref (ad (14, 0, x3.toNatClampNeg))), (0, .ref (ad (0, 0, 0))), (1, .long y1), (3, .int x3)]) C dX5_withUser_65 (by decide) rfl ?_
  refine V_ldc2 (v := 31) C (List.mem_of_getElem? (i := 3) rfl) dX5_withUser_67 ?_
  refine V_lload C dX5_withUser_70 0 rfl ?_
  refine V_lmul C dX5_withUser_72 ?_
  refine V_aload C dX5_withUser_73 1 rfl ?_
  refine V_get (ci := 4) C (ok14 (by decide) (vp_lt hv1)) uX4 rfl 10 (Nat.le_of_ble_eq_true rfl) rfl rfl f188 dX5_withUser_75 ?_
  refine V_i2l C dX5_withUser_78 ?_
  refine V_ladd C dX5_withUser_79 ?_
  refine V_topl (fun y5_7 hy5_7 => ?_)
  replace hJ := hJ y5_7 hy5_7
  refine V_lstore (lv' := [(5, .long y5_7), (4, .ref (ad (14, 0, x3.toNatClampNeg))), (0, .ref (ad (0, 0, 0))), (1, .long y1), (3, .int x3)]) C dX5_withUser_80 (by decide) rfl ?_
  refine V_ldc2 (v := 31) C (List.mem_of_getElem? (i := 3) rfl) dX5_withUser_82 ?_
  refine V_lload C dX5_withUser_85 0 rfl ?_
  refine V_lmul C dX5_withUser_87 ?_
  refine V_aload C dX5_withUser_88 1 rfl ?_
  refine V_get (ci := 4) C (ok14 (by decide) (vp_lt hv1)) uX4 rfl 11 (Nat.le_of_ble_eq_true rfl) rfl rfl f203 dX5_withUser_90 ?_
  obtain ⟨hJt, hJf⟩ := hJ
  refine V_if_eq C (tgt := 100) dX5_withUser_93 rfl (fun hc8 => ?_) (fun hc8 => ?_)
  · have hJ := hJt hc8; clear hJt hJf
    refine V_iconst (v := 0) C dX5_withUser_100 ci_0 ?_
    refine V_i2l C dX5_withUser_101 ?_
    refine V_ladd C dX5_withUser_102 ?_
    exact V_lret C hr hlocks dX5_withUser_103 hJ
  · have hJ := hJf hc8; clear hJt hJf
    refine V_iconst (v := 1) C dX5_withUser_96 ci_1 ?_
    refine V_goto C (tgt := 101) dX5_withUser_97 rfl ?_
    refine V_i2l C dX5_withUser_101 ?_
    refine V_ladd C dX5_withUser_102 ?_
    exact V_lret C hr hlocks dX5_withUser_103 hJ
set_option maxHeartbeats 4000000 in
set_option maxRecDepth 100000 in
theorem M_X5_checksum (l : Launch) (D : va_G) (tc : Nat → ClassId) (ad : Oid → Nat) (A : Nat → Prop) {σ : Mem} {Qr : Int64 → Mem → Prop} (hJ : J_X5_checksum σ Qr) : Met l yX5_checksum wsX5_checksum ({ frames := 4, cells := 0, slots := 0, locals := 93 }) (va_Pc [.ref (ad (0, 0, 0))] (WdI D vwCl (tysX tc) idsX ad (ceX tc ad) A σ)) (va_Ql (fun (r : Int64) (u : Mem) => Qr r u) (WdO D vwCl idsX ad (ceX tc ad) A) A) 0 0 A := by
  refine V_metl (cc := cX5_checksum) (nL := 4) (ret := (some .long)) (own := RX5) rfl (plainFor_of_name (by decide)) rfl rfl (Nat.le_of_ble_eq_true rfl) ?_
  intro p e s m below meth c C hr hlocks
  refine V_sub (lv' := [(0, .ref (ad (0, 0, 0)))]) [0] rfl ?_
  have f30 : Cond.fieldLink RX5 30 (TX5 4).1 (TX5 4).2.1 (TX5 4).2.2.1 ∈ wsX5_checksum := List.mem_of_getElem? (i := 1) rfl
  have uX5 : ∀ w ∈ u_ws RX5 TX5 6, w ∈ wsX5_checksum := by decide +kernel
  have f10 : Cond.fieldLink RX5 10 (TX5 0).1 (TX5 0).2.1 (TX5 0).2.2.1 ∈ wsX5_checksum := List.mem_of_getElem? (i := 2) rfl
  have f141 : Cond.fieldLink RX5 141 (TX2 9).1 (TX2 9).2.1 (TX2 9).2.2.1 ∈ wsX5_checksum := List.mem_of_getElem? (i := 5) rfl
  have uX2 : ∀ w ∈ u_ws RX2 TX2 10, w ∈ wsX5_checksum := by decide +kernel
  have f57 : Cond.fieldLink RX5 57 (TX2 5).1 (TX2 5).2.1 (TX2 5).2.2.1 ∈ wsX5_checksum := List.mem_of_getElem? (i := 6) rfl
  have f83 : Cond.fieldLink RX5 83 (TX2 6).1 (TX2 6).2.1 (TX2 6).2.2.1 ∈ wsX5_checksum := List.mem_of_getElem? (i := 7) rfl
  have f185 : Cond.fieldLink RX5 185 (TX2 4).1 (TX2 4).2.1 (TX2 4).2.2.1 ∈ wsX5_checksum := List.mem_of_getElem? (i := 9) rfl
  have f158 : Cond.fieldLink RX5 158 (TX1 2).1 (TX1 2).2.1 (TX1 2).2.2.1 ∈ wsX5_checksum := List.mem_of_getElem? (i := 8) rfl
  have uX1 : ∀ w ∈ u_ws RX1 TX1 6, w ∈ wsX5_checksum := by decide +kernel
  unfold J_X5_checksum at hJ
  refine V_aload_n C dX5_checksum_0 0 rfl ?_
  refine V_get (ci := 5) C okX_0_0 uX5 rfl 4 (Nat.le_of_ble_eq_true rfl) rfl rfl f30 dX5_checksum_1 ?_
  refine V_aload_n C dX5_checksum_4 0 rfl ?_
  refine V_get (ci := 5) C okX_0_0 uX5 rfl 0 (Nat.le_of_ble_eq_true rfl) rfl rfl f10 dX5_checksum_5 ?_
  refine V_cVv (st := []) (ci := 1) C okX_3_0 (M_X1_distribute l D tc ad A 0 (by decide) hJ) (cwV 1 C.1.2.2.2.2 gX5_checksum_X1_distribute rfl rfl rfl (by decide +kernel) ⟨Nat.le_of_ble_eq_true rfl, Nat.le_of_ble_eq_true rfl⟩) rfl rfl rfl rfl (Nat.le_of_ble_eq_true rfl) dX5_checksum_8 (fun τ1 hJ => ?_)
  refine V_ldc2 (v := 53) C (List.mem_of_getElem? (i := 3) rfl) dX5_checksum_11 ?_
  refine V_topl (fun y1_2 hy1_2 => ?_)
  replace hJ := hJ y1_2 hy1_2
  refine V_lstore_n (lv' := [(1, .long y1_2), (0, .ref (ad (0, 0, 0)))]) C dX5_checksum_14 (by decide) rfl ?_
  refine V_ldc2 (v := 31) C (List.mem_of_getElem? (i := 4) rfl) dX5_checksum_15 ?_
  refine V_lload_n C dX5_checksum_18 0 rfl ?_
  refine V_lmul C dX5_checksum_19 ?_
  refine V_aload_n C dX5_checksum_20 1 rfl ?_
  refine V_get (ci := 5) C okX_0_0 uX5 rfl 0 (Nat.le_of_ble_eq_true rfl) rfl rfl f10 dX5_checksum_21 ?_
  refine V_get (ci := 2) C (ok7 (by decide)) uX2 rfl 9 (Nat.le_of_ble_eq_true rfl) rfl rfl f141 dX5_checksum_24 ?_
  refine V_i2l C dX5_checksum_27 ?_
  refine V_ladd C dX5_checksum_28 ?_
  refine V_topl (fun y1_3 hy1_3 => ?_)
  replace hJ := hJ y1_3 hy1_3
  refine V_lstore_n (lv' := [(1, .long y1_3), (0, .ref (ad (0, 0, 0)))]) C dX5_checksum_29 (by decide) rfl ?_
  refine V_ldc2 (v := 31) C (List.mem_of_getElem? (i := 4) rfl) dX5_checksum_30 ?_
  refine V_lload_n C dX5_checksum_33 0 rfl ?_
  refine V_lmul C dX5_checksum_34 ?_
  refine V_aload_n C dX5_checksum_35 1 rfl ?_
  refine V_get (ci := 5) C okX_0_0 uX5 rfl 0 (Nat.le_of_ble_eq_true rfl) rfl rfl f10 dX5_checksum_36 ?_
  refine V_get (ci := 2) C (ok7 (by decide)) uX2 rfl 5 (Nat.le_of_ble_eq_true rfl) rfl rfl f57 dX5_checksum_39 ?_
  refine V_i2l C dX5_checksum_42 ?_
  refine V_ladd C dX5_checksum_43 ?_
  refine V_topl (fun y1_4 hy1_4 => ?_)
  replace hJ := hJ y1_4 hy1_4
  refine V_lstore_n (lv' := [(1, .long y1_4), (0, .ref (ad (0, 0, 0)))]) C dX5_checksum_44 (by decide) rfl ?_
  refine V_ldc2 (v := 31) C (List.mem_of_getElem? (i := 4) rfl) dX5_checksum_45 ?_
  refine V_lload_n C dX5_checksum_48 0 rfl ?_
  refine V_lmul C dX5_checksum_49 ?_
  refine V_aload_n C dX5_checksum_50 1 rfl ?_
  refine V_get (ci := 5) C okX_0_0 uX5 rfl 0 (Nat.le_of_ble_eq_true rfl) rfl rfl f10 dX5_checksum_51 ?_
  refine V_get (ci := 2) C (ok7 (by decide)) uX2 rfl 6 (Nat.le_of_ble_eq_true rfl) rfl rfl f83 dX5_checksum_54 ?_
  refine V_i2l C dX5_checksum_57 ?_
  refine V_ladd C dX5_checksum_58 ?_
  refine V_topl (fun y1_5 hy1_5 => ?_)
  replace hJ := hJ y1_5 hy1_5
  refine V_lstore_n (lv' := [(1, .long y1_5), (0, .ref (ad (0, 0, 0)))]) C dX5_checksum_59 (by decide) rfl ?_
  refine V_iconst (v := 0) C dX5_checksum_60 ci_0 ?_
  refine V_istore_n (lv' := [(3, .int 0), (1, .long y1_5), (0, .ref (ad (0, 0, 0)))]) C dX5_checksum_61 (by decide) rfl ?_
  refine V_sub (lv' := [(0, .ref (ad (0, 0, 0))), (1, .long y1_5), (3, .int 0)]) [2, 1, 0] rfl ?_
  obtain ⟨I62, μ62, hI62, hst62⟩ := hJ
  have L62 : ∀ (n : Nat) (y1_6 : Int64) (x3_6 : Int32) (τ6 : Mem), μ62 y1_6 x3_6 τ6 < n → I62 y1_6 x3_6 τ6 → VV p l e (headSpec wsX5_checksum ({ frames := 4, cells := 0, slots := 0, locals := 93 })).room s m ([.ref (ad (0, 0, 0))] : List Value).toArray below meth c D vwCl idsX ad (ceX tc ad) A (MQ below (va_Ql (fun (r : Int64) (u : Mem) => Qr r u) (WdO D vwCl idsX ad (ceX tc ad) A) A) ([.ref (ad (0, 0, 0))] : List Value).toArray s 0 0 A) 4 62 [(0, .ref (ad (0, 0, 0))), (1, .long y1_6), (3, .int x3_6)] [] τ6 := by
    intro n
    induction n with
    | zero => intro y1_6 x3_6 τ6 hμ _; exact absurd hμ (Nat.not_lt_zero _)
    | succ n ihn =>
      intro y1_6 x3_6 τ6 hμ62 hJ
      have ih62 := ihn
      replace hJ := hst62 y1_6 x3_6 τ6 hJ
      refine V_iload_n C dX5_checksum_62 2 rfl ?_
      refine V_aload_n C dX5_checksum_63 0 rfl ?_
      refine V_get (ci := 5) C okX_0_0 uX5 rfl 0 (Nat.le_of_ble_eq_true rfl) rfl rfl f10 dX5_checksum_64 ?_
      refine V_get (ci := 2) C (ok7 (by decide)) uX2 rfl 5 (Nat.le_of_ble_eq_true rfl) rfl rfl f57 dX5_checksum_67 ?_
      obtain ⟨hJt, hJf⟩ := hJ
      refine V_icmp_ge C (tgt := 112) dX5_checksum_70 rfl (fun hc7 => ?_) (fun hc7 => ?_)
      · have hJ := hJt hc7; clear hJt hJf
        refine V_iconst (v := 0) C dX5_checksum_112 ci_0 ?_
        refine V_istore_n (lv' := [(3, .int 0), (0, .ref (ad (0, 0, 0))), (1, .long y1_6)]) C dX5_checksum_113 (by decide) rfl ?_
        refine V_sub (lv' := [(0, .ref (ad (0, 0, 0))), (1, .long y1_6), (3, .int 0)]) [1, 2, 0] rfl ?_
        obtain ⟨I114, μ114, hI114, hst114⟩ := hJ
        have L114 : ∀ (n : Nat) (y1_8 : Int64) (x3_8 : Int32) (τ8 : Mem), μ114 y1_8 x3_8 τ8 < n → I114 y1_8 x3_8 τ8 → VV p l e (headSpec wsX5_checksum ({ frames := 4, cells := 0, slots := 0, locals := 93 })).room s m ([.ref (ad (0, 0, 0))] : List Value).toArray below meth c D vwCl idsX ad (ceX tc ad) A (MQ below (va_Ql (fun (r : Int64) (u : Mem) => Qr r u) (WdO D vwCl idsX ad (ceX tc ad) A) A) ([.ref (ad (0, 0, 0))] : List Value).toArray s 0 0 A) 4 114 [(0, .ref (ad (0, 0, 0))), (1, .long y1_8), (3, .int x3_8)] [] τ8 := by
          intro n
          induction n with
          | zero => intro y1_8 x3_8 τ8 hμ _; exact absurd hμ (Nat.not_lt_zero _)
          | succ n ihn =>
            intro y1_8 x3_8 τ8 hμ114 hJ
            have ih114 := ihn
            replace hJ := hst114 y1_8 x3_8 τ8 hJ
            refine V_iload_n C dX5_checksum_114 2 rfl ?_
            refine V_aload_n C dX5_checksum_115 0 rfl ?_
            refine V_get (ci := 5) C okX_0_0 uX5 rfl 0 (Nat.le_of_ble_eq_true rfl) rfl rfl f10 dX5_checksum_116 ?_
            refine V_get (ci := 2) C (ok7 (by decide)) uX2 rfl 6 (Nat.le_of_ble_eq_true rfl) rfl rfl f83 dX5_checksum_119 ?_
            obtain ⟨hJt, hJf⟩ := hJ
            refine V_icmp_ge C (tgt := 138) dX5_checksum_122 rfl (fun hc9 => ?_) (fun hc9 => ?_)
            · have hJ := hJt hc9; clear hJt hJf
              refine V_iconst (v := 0) C dX5_checksum_138 ci_0 ?_
              refine V_istore_n (lv' := [(3, .int 0), (0, .ref (ad (0, 0, 0))), (1, .long y1_8)]) C dX5_checksum_139 (by decide) rfl ?_
              refine V_sub (lv' := [(0, .ref (ad (0, 0, 0))), (1, .long y1_8), (3, .int 0)]) [1, 2, 0] rfl ?_
              obtain ⟨I140, μ140, hI140, hst140⟩ := hJ
              have L140 : ∀ (n : Nat) (y1_10 : Int64) (x3_10 : Int32), μ140 y1_10 x3_10 < n → I140 y1_10 x3_10 → VV p l e (headSpec wsX5_checksum ({ frames := 4, cells := 0, slots := 0, locals := 93 })).room s m ([.ref (ad (0, 0, 0))] : List Value).toArray below meth c D vwCl idsX ad (ceX tc ad) A (MQ below (va_Ql (fun (r : Int64) (u : Mem) => Qr r u) (WdO D vwCl idsX ad (ceX tc ad) A) A) ([.ref (ad (0, 0, 0))] : List Value).toArray s 0 0 A) 4 140 [(0, .ref (ad (0, 0, 0))), (1, .long y1_10), (3, .int x3_10)] [] τ8 := by
                intro n
                induction n with
                | zero => intro y1_10 x3_10 hμ _; exact absurd hμ (Nat.not_lt_zero _)
                | succ n ihn =>
                  intro y1_10 x3_10 hμ140 hJ
                  have ih140 := ihn
                  replace hJ := hst140 y1_10 x3_10 hJ
                  refine V_iload_n C dX5_checksum_140 2 rfl ?_
                  refine V_bipush (v := 7) C dX5_checksum_141 cb_7 ?_
                  obtain ⟨hJt, hJf⟩ := hJ
                  refine V_icmp_ge C (tgt := 169) dX5_checksum_143 rfl (fun hc11 => ?_) (fun hc11 => ?_)
                  · have hJ := hJt hc11; clear hJt hJf
                    refine V_ldc2 (v := 31) C (List.mem_of_getElem? (i := 4) rfl) dX5_checksum_169 ?_
                    refine V_lload_n C dX5_checksum_172 1 rfl ?_
                    refine V_lmul C dX5_checksum_173 ?_
                    refine V_aload_n C dX5_checksum_174 0 rfl ?_
                    refine V_get (ci := 5) C okX_0_0 uX5 rfl 0 (Nat.le_of_ble_eq_true rfl) rfl rfl f10 dX5_checksum_175 ?_
                    refine V_cVi (st := [.long ((31 : Int64) * y1_10)]) (ci := 2) C (ok7 (by decide)) (M_X2_userInTurn l D tc ad A 0 (by decide) hJ) (cwV 0 C.1.2.2.2.2 gX5_checksum_X2_userInTurn rfl rfl rfl (by decide +kernel) ⟨Nat.le_of_ble_eq_true rfl, Nat.le_of_ble_eq_true rfl⟩) rfl rfl rfl rfl (Nat.le_of_ble_eq_true rfl) dX5_checksum_178 (fun r12 τ12 hJ => ?_)
                    refine V_i2l C dX5_checksum_181 ?_
                    refine V_ladd C dX5_checksum_182 ?_
                    exact V_lret C hr hlocks dX5_checksum_183 hJ
                  · have hJ := hJf hc11; clear hJt hJf
                    refine V_ldc2 (v := 31) C (List.mem_of_getElem? (i := 4) rfl) dX5_checksum_146 ?_
                    refine V_lload_n C dX5_checksum_149 1 rfl ?_
                    refine V_lmul C dX5_checksum_150 ?_
                    refine V_aload_n C dX5_checksum_151 0 rfl ?_
                    refine V_get (ci := 5) C okX_0_0 uX5 rfl 0 (Nat.le_of_ble_eq_true rfl) rfl rfl f10 dX5_checksum_152 ?_
                    refine V_get (ci := 2) C (ok7 (by decide)) uX2 rfl 4 (Nat.le_of_ble_eq_true rfl) rfl rfl f185 dX5_checksum_155 ?_
                    refine V_iload_n C dX5_checksum_158 2 rfl ?_
                    obtain ⟨hv13, hJ⟩ := hJ
                    refine V_iald C (ok12 (by decide)) 0 rfl rfl rfl hv13 dX5_checksum_159 ?_
                    refine V_i2l C dX5_checksum_160 ?_
                    refine V_ladd C dX5_checksum_161 ?_
                    refine V_topl (fun y1_14 hy1_14 => ?_)
                    replace hJ := hJ y1_14 hy1_14
                    refine V_lstore_n (lv' := [(1, .long y1_14), (0, .ref (ad (0, 0, 0))), (3, .int x3_10)]) C dX5_checksum_162 (by decide) rfl ?_
                    obtain ⟨x3_15, hx3_15⟩ : ∃ y : Int32, y = x3_10 + 1 := ⟨_, rfl⟩
                    replace hJ := hJ x3_15 hx3_15
                    refine V_iinc (v := x3_15) (lv' := [(3, .int x3_15), (1, .long y1_14), (0, .ref (ad (0, 0, 0)))]) C dX5_checksum_163 2 rfl (by rw [hx3_15]; exact congrArg _ ci_1) (by decide) rfl ?_
                    refine V_goto C (tgt := 140) dX5_checksum_166 rfl ?_
                    refine V_sub (lv' := [(0, .ref (ad (0, 0, 0))), (1, .long y1_14), (3, .int x3_15)]) [2, 1, 0] rfl ?_
                    exact ih140 y1_14 x3_15 (Nat.lt_of_lt_of_le hJ.2 (Nat.le_of_lt_succ hμ140)) hJ.1
              exact L140 _ y1_8 0 (Nat.lt_succ_self _) hI140
            · have hJ := hJf hc9; clear hJt hJf
              refine V_aload_n C dX5_checksum_125 0 rfl ?_
              refine V_lload_n C dX5_checksum_126 1 rfl ?_
              refine V_iload_n C dX5_checksum_127 2 rfl ?_
              refine V_cVl (st := []) (ci := 5) C okX_0_0 (M_X5_withUser l D tc ad A y1_8 x3_8 hJ) (cwV 2 C.1.2.2.2.2 gX5_checksum_X5_withUser rfl rfl rfl (by decide +kernel) ⟨Nat.le_of_ble_eq_true rfl, Nat.le_of_ble_eq_true rfl⟩) rfl rfl rfl rfl (Nat.le_of_ble_eq_true rfl) dX5_checksum_128 (fun r16 τ16 hJ => ?_)
              refine V_lstore_n (lv' := [(1, .long r16), (0, .ref (ad (0, 0, 0))), (3, .int x3_8)]) C dX5_checksum_131 (by decide) rfl ?_
              obtain ⟨x3_17, hx3_17⟩ : ∃ y : Int32, y = x3_8 + 1 := ⟨_, rfl⟩
              replace hJ := hJ x3_17 hx3_17
              refine V_iinc (v := x3_17) (lv' := [(3, .int x3_17), (1, .long r16), (0, .ref (ad (0, 0, 0)))]) C dX5_checksum_132 2 rfl (by rw [hx3_17]; exact congrArg _ ci_1) (by decide) rfl ?_
              refine V_goto C (tgt := 114) dX5_checksum_135 rfl ?_
              refine V_sub (lv' := [(0, .ref (ad (0, 0, 0))), (1, .long r16), (3, .int x3_17)]) [2, 1, 0] rfl ?_
              exact ih114 r16 x3_17 τ16 (Nat.lt_of_lt_of_le hJ.2 (Nat.le_of_lt_succ hμ114)) hJ.1
        exact L114 _ y1_6 0 τ6 (Nat.lt_succ_self _) hI114
      · have hJ := hJf hc7; clear hJt hJf
        refine V_ldc2 (v := 31) C (List.mem_of_getElem? (i := 4) rfl) dX5_checksum_73 ?_
        refine V_lload_n C dX5_checksum_76 1 rfl ?_
        refine V_lmul C dX5_checksum_77 ?_
        refine V_aload_n C dX5_checksum_78 0 rfl ?_
        refine V_get (ci := 5) C okX_0_0 uX5 rfl 4 (Nat.le_of_ble_eq_true rfl) rfl rfl f30 dX5_checksum_79 ?_
        refine V_get (ci := 1) C okX_3_0 uX1 rfl 2 (Nat.le_of_ble_eq_true rfl) rfl rfl f158 dX5_checksum_82 ?_
        refine V_iload_n C dX5_checksum_85 2 rfl ?_
        obtain ⟨hv18, hJ⟩ := hJ
        refine V_iald C okX_15_0 0 rfl rfl rfl hv18 dX5_checksum_86 ?_
        refine V_i2l C dX5_checksum_87 ?_
        refine V_ladd C dX5_checksum_88 ?_
        refine V_topl (fun y1_19 hy1_19 => ?_)
        replace hJ := hJ y1_19 hy1_19
        refine V_lstore_n (lv' := [(1, .long y1_19), (0, .ref (ad (0, 0, 0))), (3, .int x3_6)]) C dX5_checksum_89 (by decide) rfl ?_
        refine V_ldc2 (v := 31) C (List.mem_of_getElem? (i := 4) rfl) dX5_checksum_90 ?_
        refine V_lload_n C dX5_checksum_93 0 rfl ?_
        refine V_lmul C dX5_checksum_94 ?_
        refine V_aload_n C dX5_checksum_95 1 rfl ?_
        refine V_get (ci := 5) C okX_0_0 uX5 rfl 4 (Nat.le_of_ble_eq_true rfl) rfl rfl f30 dX5_checksum_96 ?_
        refine V_iload_n C dX5_checksum_99 2 rfl ?_
        refine V_cVi (st := [.long ((31 : Int64) * y1_19)]) (ci := 1) C okX_3_0 (M_X1_lostIn l D tc ad A x3_6 hJ) (cwV 1 C.1.2.2.2.2 gX5_checksum_X1_lostIn rfl rfl rfl (by decide +kernel) ⟨Nat.le_of_ble_eq_true rfl, Nat.le_of_ble_eq_true rfl⟩) rfl rfl rfl rfl (Nat.le_of_ble_eq_true rfl) dX5_checksum_100 (fun r20 τ20 hJ => ?_)
        refine V_i2l C dX5_checksum_103 ?_
        refine V_ladd C dX5_checksum_104 ?_
        refine V_topl (fun y1_21 hy1_21 => ?_)
        replace hJ := hJ y1_21 hy1_21
        refine V_lstore_n (lv' := [(1, .long y1_21), (0, .ref (ad (0, 0, 0))), (3, .int x3_6)]) C dX5_checksum_105 (by decide) rfl ?_
        obtain ⟨x3_22, hx3_22⟩ : ∃ y : Int32, y = x3_6 + 1 := ⟨_, rfl⟩
        replace hJ := hJ x3_22 hx3_22
        refine V_iinc (v := x3_22) (lv' := [(3, .int x3_22), (1, .long y1_21), (0, .ref (ad (0, 0, 0)))]) C dX5_checksum_106 2 rfl (by rw [hx3_22]; exact congrArg _ ci_1) (by decide) rfl ?_
        refine V_goto C (tgt := 62) dX5_checksum_109 rfl ?_
        refine V_sub (lv' := [(0, .ref (ad (0, 0, 0))), (1, .long y1_21), (3, .int x3_22)]) [2, 1, 0] rfl ?_
        exact ih62 y1_21 x3_22 τ20 (Nat.lt_of_lt_of_le hJ.2 (Nat.le_of_lt_succ hμ62)) hJ.1
  exact L62 _ y1_5 0 τ1 (Nat.lt_succ_self _) hI62
set_option maxHeartbeats 4000000 in
set_option maxRecDepth 100000 in
theorem M_X5_clearText (l : Launch) (D : va_G) (tc : Nat → ClassId) (ad : Oid → Nat) (A : Nat → Prop) {σ : Mem} {Qr : Int32 → Mem → Prop} (hJ : J_X5_clearText σ Qr) : Met l yX5_clearText wsX5_clearText ({ frames := 0, cells := 0, slots := 0, locals := 0 }) (va_Pc [.ref (ad (0, 0, 0))] (WdI D vwCl (tysX tc) idsX ad (ceX tc ad) A σ)) (va_Qi (fun (r : Int32) (u : Mem) => Qr r u) (WdO D vwCl idsX ad (ceX tc ad) A) A) 0 0 A := by
  refine V_meti (cc := cX5_clearText) (nL := 2) (ret := (some .int)) (own := RX5) rfl (plainFor_of_name (by decide)) rfl rfl (Nat.le_of_ble_eq_true rfl) ?_
  intro p e s m below meth c C hr hlocks
  refine V_sub (lv' := [(0, .ref (ad (0, 0, 0)))]) [0] rfl ?_
  have f37 : Cond.fieldLink RX5 37 (TX5 5).1 (TX5 5).2.1 (TX5 5).2.2.1 ∈ wsX5_clearText := List.mem_of_getElem? (i := 1) rfl
  have uX5 : ∀ w ∈ u_ws RX5 TX5 6, w ∈ wsX5_clearText := by decide +kernel
  have f214 : Cond.fieldLink RX5 214 (TX3 0).1 (TX3 0).2.1 (TX3 0).2.2.1 ∈ wsX5_clearText := List.mem_of_getElem? (i := 2) rfl
  have uX3 : ∀ w ∈ u_ws RX3 TX3 5, w ∈ wsX5_clearText := by decide +kernel
  unfold J_X5_clearText at hJ
  refine V_aload_n C dX5_clearText_0 0 rfl ?_
  refine V_get (ci := 5) C okX_0_0 uX5 rfl 5 (Nat.le_of_ble_eq_true rfl) rfl rfl f37 dX5_clearText_1 ?_
  refine V_get (ci := 3) C okX_5_0 uX3 rfl 0 (Nat.le_of_ble_eq_true rfl) rfl rfl f214 dX5_clearText_4 ?_
  refine V_topi (fun x1_1 hx1_1 => ?_)
  replace hJ := hJ x1_1 hx1_1
  refine V_istore_n (lv' := [(1, .int x1_1), (0, .ref (ad (0, 0, 0)))]) C dX5_clearText_7 (by decide) rfl ?_
  refine V_aload_n C dX5_clearText_8 1 rfl ?_
  refine V_get (ci := 5) C okX_0_0 uX5 rfl 5 (Nat.le_of_ble_eq_true rfl) rfl rfl f37 dX5_clearText_9 ?_
  refine V_iconst (v := 0) C dX5_clearText_12 ci_0 ?_
  refine V_put (ci := 3) C okX_5_0 uX3 tyX3 tyX3_ok nmX3 rfl 0 (Nat.le_of_ble_eq_true rfl) rfl rfl f214 rfl (ty := .int) (by decide +kernel) rfl rfl (Nat.le_of_ble_eq_true rfl) dX5_clearText_13 (fun τ2 hτ2 => ?_)
  replace hJ := hJ τ2 hτ2
  refine V_iload_n C dX5_clearText_16 0 rfl ?_
  exact V_iret C hr hlocks dX5_clearText_17 hJ
set_option maxHeartbeats 4000000 in
set_option maxRecDepth 100000 in
theorem M_X5_gainOf (l : Launch) (D : va_G) (tc : Nat → ClassId) (ad : Oid → Nat) (A : Nat → Prop) (x1 : Int32) (x2 : Int32) {σ : Mem} {Qr : Int32 → Mem → Prop} (hJ : J_X5_gainOf x1 x2 σ Qr) : Met l yX5_gainOf wsX5_gainOf ({ frames := 4, cells := 0, slots := 0, locals := 93 }) (va_Pc [.ref (ad (0, 0, 0)), .int x1, .int x2] (WdI D vwCl (tysX tc) idsX ad (ceX tc ad) A σ)) (va_Qi (fun (r : Int32) (u : Mem) => Qr r u) (WdO D vwCl idsX ad (ceX tc ad) A) A) 0 0 A := by
  refine V_meti (cc := cX5_gainOf) (nL := 4) (ret := (some .int)) (own := RX5) rfl (plainFor_of_name (by decide)) rfl rfl (Nat.le_of_ble_eq_true rfl) ?_
  intro p e s m below meth c C hr hlocks
  refine V_sub (lv' := [(0, .ref (ad (0, 0, 0))), (1, .int x1), (2, .int x2)]) [0, 1, 2] rfl ?_
  have f30 : Cond.fieldLink RX5 30 (TX5 4).1 (TX5 4).2.1 (TX5 4).2.2.1 ∈ wsX5_gainOf := List.mem_of_getElem? (i := 1) rfl
  have uX5 : ∀ w ∈ u_ws RX5 TX5 6, w ∈ wsX5_gainOf := by decide +kernel
  have f10 : Cond.fieldLink RX5 10 (TX5 0).1 (TX5 0).2.1 (TX5 0).2.2.1 ∈ wsX5_gainOf := List.mem_of_getElem? (i := 2) rfl
  have f155 : Cond.fieldLink RX5 155 (TX1 1).1 (TX1 1).2.1 (TX1 1).2.2.1 ∈ wsX5_gainOf := List.mem_of_getElem? (i := 3) rfl
  have uX1 : ∀ w ∈ u_ws RX1 TX1 6, w ∈ wsX5_gainOf := by decide +kernel
  have f16 : Cond.fieldLink RX5 16 (TX5 1).1 (TX5 1).2.1 (TX5 1).2.2.1 ∈ wsX5_gainOf := List.mem_of_getElem? (i := 4) rfl
  have f92 : Cond.fieldLink RX5 92 (TX2 1).1 (TX2 1).2.1 (TX2 1).2.2.1 ∈ wsX5_gainOf := List.mem_of_getElem? (i := 5) rfl
  have uX2 : ∀ w ∈ u_ws RX2 TX2 10, w ∈ wsX5_gainOf := by decide +kernel
  have f203 : Cond.fieldLink RX5 203 (TX4 11).1 (TX4 11).2.1 (TX4 11).2.2.1 ∈ wsX5_gainOf := List.mem_of_getElem? (i := 6) rfl
  have uX4 : ∀ w ∈ u_ws RX4 TX4 12, w ∈ wsX5_gainOf := by decide +kernel
  unfold J_X5_gainOf at hJ
  refine V_aload_n C dX5_gainOf_0 0 rfl ?_
  refine V_get (ci := 5) C okX_0_0 uX5 rfl 4 (Nat.le_of_ble_eq_true rfl) rfl rfl f30 dX5_gainOf_1 ?_
  refine V_aload_n C dX5_gainOf_4 0 rfl ?_
  refine V_get (ci := 5) C okX_0_0 uX5 rfl 0 (Nat.le_of_ble_eq_true rfl) rfl rfl f10 dX5_gainOf_5 ?_
  refine V_cVv (st := []) (ci := 1) C okX_3_0 (M_X1_distribute l D tc ad A 0 (by decide) hJ) (cwV 1 C.1.2.2.2.2 gX5_gainOf_X1_distribute rfl rfl rfl (by decide +kernel) ⟨Nat.le_of_ble_eq_true rfl, Nat.le_of_ble_eq_true rfl⟩) rfl rfl rfl rfl (Nat.le_of_ble_eq_true rfl) dX5_gainOf_8 (fun τ1 hJ => ?_)
  refine V_aload_n C dX5_gainOf_11 0 rfl ?_
  refine V_get (ci := 5) C okX_0_0 uX5 rfl 4 (Nat.le_of_ble_eq_true rfl) rfl rfl f30 dX5_gainOf_12 ?_
  refine V_get (ci := 1) C okX_3_0 uX1 rfl 1 (Nat.le_of_ble_eq_true rfl) rfl rfl f155 dX5_gainOf_15 ?_
  refine V_iload_n C dX5_gainOf_18 1 rfl ?_
  obtain ⟨hv2, hJ⟩ := hJ
  refine V_iald C okX_4_1 0 rfl rfl rfl hv2 dX5_gainOf_19 ?_
  refine V_topi (fun x3_3 hx3_3 => ?_)
  replace hJ := hJ x3_3 hx3_3
  refine V_istore_n (lv' := [(3, .int x3_3), (0, .ref (ad (0, 0, 0))), (1, .int x1), (2, .int x2)]) C dX5_gainOf_20 (by decide) rfl ?_
  refine V_aload_n C dX5_gainOf_21 1 rfl ?_
  refine V_get (ci := 5) C okX_0_0 uX5 rfl 1 (Nat.le_of_ble_eq_true rfl) rfl rfl f16 dX5_gainOf_22 ?_
  refine V_aload_n C dX5_gainOf_25 1 rfl ?_
  refine V_get (ci := 5) C okX_0_0 uX5 rfl 0 (Nat.le_of_ble_eq_true rfl) rfl rfl f10 dX5_gainOf_26 ?_
  refine V_cVv (st := []) (ci := 2) C (ok7 (by decide)) (M_X2_copyFrom l D tc ad A 1 (by decide) 0 (by decide) hJ) (cwV 1 C.1.2.2.2.2 gX5_gainOf_X2_copyFrom rfl rfl rfl (by decide +kernel) ⟨Nat.le_of_ble_eq_true rfl, Nat.le_of_ble_eq_true rfl⟩) rfl rfl rfl rfl (Nat.le_of_ble_eq_true rfl) dX5_gainOf_29 (fun τ4 hJ => ?_)
  refine V_aload_n C dX5_gainOf_32 1 rfl ?_
  refine V_get (ci := 5) C okX_0_0 uX5 rfl 1 (Nat.le_of_ble_eq_true rfl) rfl rfl f16 dX5_gainOf_33 ?_
  refine V_get (ci := 2) C (ok7 (by decide)) uX2 rfl 1 (Nat.le_of_ble_eq_true rfl) rfl rfl f92 dX5_gainOf_36 ?_
  refine V_iload_n C dX5_gainOf_39 3 rfl ?_
  obtain ⟨hv5, hJ⟩ := hJ
  refine V_aald (o' := (14, 1, x2.toNatClampNeg)) C (ok9 (by decide)) 4 rfl rfl hv5 rfl dX5_gainOf_40 ?_
  refine V_iconst (v := 1) C dX5_gainOf_41 ci_1 ?_
  refine V_put (ci := 4) C (ok14 (by decide) (vp_lt hv5)) uX4 tyX4 tyX4_ok nmX4 rfl 11 (Nat.le_of_ble_eq_true rfl) rfl rfl f203 rfl (ty := .boolean) (by decide +kernel) (isB_narrow (Or.inr rfl)) (isB_fits (Or.inr rfl)) (Nat.le_of_ble_eq_true rfl) dX5_gainOf_42 (fun τ6 hτ6 => ?_)
  replace hJ := hJ τ6 hτ6
  refine V_aload_n C dX5_gainOf_45 1 rfl ?_
  refine V_get (ci := 5) C okX_0_0 uX5 rfl 4 (Nat.le_of_ble_eq_true rfl) rfl rfl f30 dX5_gainOf_46 ?_
  refine V_aload_n C dX5_gainOf_49 1 rfl ?_
  refine V_get (ci := 5) C okX_0_0 uX5 rfl 1 (Nat.le_of_ble_eq_true rfl) rfl rfl f16 dX5_gainOf_50 ?_
  refine V_cVv (st := []) (ci := 1) C okX_3_0 (M_X1_distribute l D tc ad A 1 (by decide) hJ) (cwV 1 C.1.2.2.2.2 gX5_gainOf_X1_distribute rfl rfl rfl (by decide +kernel) ⟨Nat.le_of_ble_eq_true rfl, Nat.le_of_ble_eq_true rfl⟩) rfl rfl rfl rfl (Nat.le_of_ble_eq_true rfl) dX5_gainOf_53 (fun τ7 hJ => ?_)
  refine V_aload_n C dX5_gainOf_56 1 rfl ?_
  refine V_get (ci := 5) C okX_0_0 uX5 rfl 4 (Nat.le_of_ble_eq_true rfl) rfl rfl f30 dX5_gainOf_57 ?_
  refine V_get (ci := 1) C okX_3_0 uX1 rfl 1 (Nat.le_of_ble_eq_true rfl) rfl rfl f155 dX5_gainOf_60 ?_
  refine V_iload_n C dX5_gainOf_63 2 rfl ?_
  obtain ⟨hv8, hJ⟩ := hJ
  refine V_iald C okX_4_1 0 rfl rfl rfl hv8 dX5_gainOf_64 ?_
  refine V_iload_n C dX5_gainOf_65 0 rfl ?_
  refine V_isub C dX5_gainOf_66 ?_
  exact V_iret C hr hlocks dX5_gainOf_67 hJ
set_option maxHeartbeats 4000000 in
set_option maxRecDepth 100000 in
theorem M_X5_judge (l : Launch) (D : va_G) (tc : Nat → ClassId) (ad : Oid → Nat) (A : Nat → Prop) (x1 : Int32) (x2 : Int32) {σ : Mem} {Qr : Int32 → Mem → Prop} (hJ : J_X5_judge x1 x2 σ Qr) : Met l yX5_judge wsX5_judge ({ frames := 5, cells := 0, slots := 0, locals := 116 }) (va_Pc [.ref (ad (0, 0, 0)), .int x1, .int x2] (WdI D vwCl (tysX tc) idsX ad (ceX tc ad) A σ)) (va_Qi (fun (r : Int32) (u : Mem) => Qr r u) (WdO D vwCl idsX ad (ceX tc ad) A) A) 0 0 A := by
  refine V_meti (cc := cX5_judge) (nL := 5) (ret := (some .int)) (own := RX5) rfl (plainFor_of_name (by decide)) rfl rfl (Nat.le_of_ble_eq_true rfl) ?_
  intro p e s m below meth c C hr hlocks
  refine V_sub (lv' := [(0, .ref (ad (0, 0, 0))), (1, .int x1), (2, .int x2)]) [0, 1, 2] rfl ?_
  have f30 : Cond.fieldLink RX5 30 (TX5 4).1 (TX5 4).2.1 (TX5 4).2.2.1 ∈ wsX5_judge := List.mem_of_getElem? (i := 1) rfl
  have uX5 : ∀ w ∈ u_ws RX5 TX5 6, w ∈ wsX5_judge := by decide +kernel
  have f10 : Cond.fieldLink RX5 10 (TX5 0).1 (TX5 0).2.1 (TX5 0).2.2.1 ∈ wsX5_judge := List.mem_of_getElem? (i := 2) rfl
  have f155 : Cond.fieldLink RX5 155 (TX1 1).1 (TX1 1).2.1 (TX1 1).2.2.1 ∈ wsX5_judge := List.mem_of_getElem? (i := 3) rfl
  have uX1 : ∀ w ∈ u_ws RX1 TX1 6, w ∈ wsX5_judge := by decide +kernel
  have f135 : Cond.fieldLink RX5 135 (TX2 8).1 (TX2 8).2.1 (TX2 8).2.2.1 ∈ wsX5_judge := List.mem_of_getElem? (i := 4) rfl
  have uX2 : ∀ w ∈ u_ws RX2 TX2 10, w ∈ wsX5_judge := by decide +kernel
  unfold J_X5_judge at hJ
  refine V_aload_n C dX5_judge_0 0 rfl ?_
  refine V_get (ci := 5) C okX_0_0 uX5 rfl 4 (Nat.le_of_ble_eq_true rfl) rfl rfl f30 dX5_judge_1 ?_
  refine V_aload_n C dX5_judge_4 0 rfl ?_
  refine V_get (ci := 5) C okX_0_0 uX5 rfl 0 (Nat.le_of_ble_eq_true rfl) rfl rfl f10 dX5_judge_5 ?_
  refine V_cVv (st := []) (ci := 1) C okX_3_0 (M_X1_distribute l D tc ad A 0 (by decide) hJ) (cwV 1 C.1.2.2.2.2 gX5_judge_X1_distribute rfl rfl rfl (by decide +kernel) ⟨Nat.le_of_ble_eq_true rfl, Nat.le_of_ble_eq_true rfl⟩) rfl rfl rfl rfl (Nat.le_of_ble_eq_true rfl) dX5_judge_8 (fun τ1 hJ => ?_)
  refine V_aload_n C dX5_judge_11 0 rfl ?_
  refine V_get (ci := 5) C okX_0_0 uX5 rfl 4 (Nat.le_of_ble_eq_true rfl) rfl rfl f30 dX5_judge_12 ?_
  refine V_get (ci := 1) C okX_3_0 uX1 rfl 1 (Nat.le_of_ble_eq_true rfl) rfl rfl f155 dX5_judge_15 ?_
  refine V_iload_n C dX5_judge_18 2 rfl ?_
  obtain ⟨hv2, hJ⟩ := hJ
  refine V_iald C okX_4_1 0 rfl rfl rfl hv2 dX5_judge_19 ?_
  refine V_topi (fun x3_3 hx3_3 => ?_)
  replace hJ := hJ x3_3 hx3_3
  refine V_istore_n (lv' := [(3, .int x3_3), (0, .ref (ad (0, 0, 0))), (1, .int x1), (2, .int x2)]) C dX5_judge_20 (by decide) rfl ?_
  refine V_aload_n C dX5_judge_21 1 rfl ?_
  refine V_get (ci := 5) C okX_0_0 uX5 rfl 4 (Nat.le_of_ble_eq_true rfl) rfl rfl f30 dX5_judge_22 ?_
  refine V_iload_n C dX5_judge_25 2 rfl ?_
  refine V_cVi (st := []) (ci := 1) C okX_3_0 (M_X1_isContent l D tc ad A x1 hJ) (cwV 1 C.1.2.2.2.2 gX5_judge_X1_isContent rfl rfl rfl (by decide +kernel) ⟨Nat.le_of_ble_eq_true rfl, Nat.le_of_ble_eq_true rfl⟩) rfl rfl rfl rfl (Nat.le_of_ble_eq_true rfl) dX5_judge_26 (fun r4 τ4 hJ => ?_)
  obtain ⟨hJt, hJf⟩ := hJ
  refine V_if_ne C (tgt := 36) dX5_judge_29 rfl (fun hc5 => ?_) (fun hc5 => ?_)
  · have hJ := hJt hc5; clear hJt hJf
    refine V_iconst (v := 0) C dX5_judge_36 ci_0 ?_
    exact V_iret C hr hlocks dX5_judge_37 hJ
  · have hJ := hJf hc5; clear hJt hJf
    refine V_iload_n C dX5_judge_32 0 rfl ?_
    obtain ⟨hJt, hJf⟩ := hJ
    refine V_if_ne C (tgt := 38) dX5_judge_33 rfl (fun hc6 => ?_) (fun hc6 => ?_)
    · have hJ := hJt hc6; clear hJt hJf
      refine V_aload_n C dX5_judge_38 1 rfl ?_
      refine V_iload_n C dX5_judge_39 2 rfl ?_
      refine V_iload_n C dX5_judge_40 3 rfl ?_
      refine V_cVi (st := []) (ci := 5) C okX_0_0 (M_X5_gainOf l D tc ad A x1 x2 hJ) (cwV 2 C.1.2.2.2.2 gX5_judge_X5_gainOf rfl rfl rfl (by decide +kernel) ⟨Nat.le_of_ble_eq_true rfl, Nat.le_of_ble_eq_true rfl⟩) rfl rfl rfl rfl (Nat.le_of_ble_eq_true rfl) dX5_judge_41 (fun r7 τ7 hJ => ?_)
      refine V_istore (lv' := [(4, .int r7), (3, .int x3_3), (0, .ref (ad (0, 0, 0))), (1, .int x1), (2, .int x2)]) C dX5_judge_44 (by decide) rfl ?_
      refine V_iload C dX5_judge_46 0 rfl ?_
      obtain ⟨hJt, hJf⟩ := hJ
      refine V_if_eq C (tgt := 68) dX5_judge_48 rfl (fun hc8 => ?_) (fun hc8 => ?_)
      · have hJ := hJt hc8; clear hJt hJf
        refine V_iconst (v := 1) C dX5_judge_68 ci_1 ?_
        refine V_goto C (tgt := 73) dX5_judge_69 rfl ?_
        exact V_iret C hr hlocks dX5_judge_73 hJ
      · have hJ := hJf hc8; clear hJt hJf
        refine V_bipush (v := 100) C dX5_judge_51 cb_100 ?_
        refine V_iload C dX5_judge_53 0 rfl ?_
        refine V_imul C dX5_judge_55 ?_
        refine V_aload_n C dX5_judge_56 2 rfl ?_
        refine V_get (ci := 5) C okX_0_0 uX5 rfl 0 (Nat.le_of_ble_eq_true rfl) rfl rfl f10 dX5_judge_57 ?_
        refine V_get (ci := 2) C (ok7 (by decide)) uX2 rfl 8 (Nat.le_of_ble_eq_true rfl) rfl rfl f135 dX5_judge_60 ?_
        refine V_iload_n C dX5_judge_63 1 rfl ?_
        refine V_imul C dX5_judge_64 ?_
        obtain ⟨hJt, hJf⟩ := hJ
        refine V_icmp_ge C (tgt := 72) dX5_judge_65 rfl (fun hc9 => ?_) (fun hc9 => ?_)
        · have hJ := hJt hc9; clear hJt hJf
          refine V_iconst (v := 2) C dX5_judge_72 ci_2 ?_
          exact V_iret C hr hlocks dX5_judge_73 hJ
        · have hJ := hJf hc9; clear hJt hJf
          refine V_iconst (v := 1) C dX5_judge_68 ci_1 ?_
          refine V_goto C (tgt := 73) dX5_judge_69 rfl ?_
          exact V_iret C hr hlocks dX5_judge_73 hJ
    · have hJ := hJf hc6; clear hJt hJf
      refine V_iconst (v := 0) C dX5_judge_36 ci_0 ?_
      exact V_iret C hr hlocks dX5_judge_37 hJ
set_option maxHeartbeats 4000000 in
set_option maxRecDepth 100000 in
theorem M_X5_complaint (l : Launch) (D : va_G) (tc : Nat → ClassId) (ad : Oid → Nat) (A : Nat → Prop) (x1 : Int32) (x2 : Int32) {σ : Mem} {Qr : Int32 → Mem → Prop} (hJ : J_X5_complaint x1 x2 σ Qr) : Met l yX5_complaint wsX5_complaint ({ frames := 6, cells := 0, slots := 0, locals := 140 }) (va_Pc [.ref (ad (0, 0, 0)), .int x1, .int x2] (WdI D vwCl (tysX tc) idsX ad (ceX tc ad) A σ)) (va_Qi (fun (r : Int32) (u : Mem) => Qr r u) (WdO D vwCl idsX ad (ceX tc ad) A) A) 0 0 A := by
  refine V_meti (cc := cX5_complaint) (nL := 3) (ret := (some .int)) (own := RX5) rfl (plainFor_of_name (by decide)) rfl rfl (Nat.le_of_ble_eq_true rfl) ?_
  intro p e s m below meth c C hr hlocks
  refine V_sub (lv' := [(0, .ref (ad (0, 0, 0))), (1, .int x1), (2, .int x2)]) [0, 1, 2] rfl ?_
  have f10 : Cond.fieldLink RX5 10 (TX5 0).1 (TX5 0).2.1 (TX5 0).2.2.1 ∈ wsX5_complaint := List.mem_of_getElem? (i := 1) rfl
  have uX5 : ∀ w ∈ u_ws RX5 TX5 6, w ∈ wsX5_complaint := by decide +kernel
  unfold J_X5_complaint at hJ
  refine V_aload_n C dX5_complaint_0 0 rfl ?_
  refine V_get (ci := 5) C okX_0_0 uX5 rfl 0 (Nat.le_of_ble_eq_true rfl) rfl rfl f10 dX5_complaint_1 ?_
  refine V_iload_n C dX5_complaint_4 1 rfl ?_
  refine V_cVi (st := []) (ci := 2) C (ok7 (by decide)) (M_X2_hasUser l D tc ad A 0 (by decide) x1 hJ) (cwV 1 C.1.2.2.2.2 gX5_complaint_X2_hasUser rfl rfl rfl (by decide +kernel) ⟨Nat.le_of_ble_eq_true rfl, Nat.le_of_ble_eq_true rfl⟩) rfl rfl rfl rfl (Nat.le_of_ble_eq_true rfl) dX5_complaint_5 (fun r1 τ1 hJ => ?_)
  obtain ⟨hJt, hJf⟩ := hJ
  refine V_if_eq C (tgt := 22) dX5_complaint_8 rfl (fun hc2 => ?_) (fun hc2 => ?_)
  · have hJ := hJt hc2; clear hJt hJf
    refine V_bipush (v := (-101)) C dX5_complaint_22 cb_m101 ?_
    exact V_iret C hr hlocks dX5_complaint_24 hJ
  · have hJ := hJf hc2; clear hJt hJf
    refine V_aload_n C dX5_complaint_11 0 rfl ?_
    refine V_get (ci := 5) C okX_0_0 uX5 rfl 0 (Nat.le_of_ble_eq_true rfl) rfl rfl f10 dX5_complaint_12 ?_
    refine V_iload_n C dX5_complaint_15 2 rfl ?_
    refine V_cVi (st := []) (ci := 2) C (ok7 (by decide)) (M_X2_hasUser l D tc ad A 0 (by decide) x2 hJ) (cwV 1 C.1.2.2.2.2 gX5_complaint_X2_hasUser rfl rfl rfl (by decide +kernel) ⟨Nat.le_of_ble_eq_true rfl, Nat.le_of_ble_eq_true rfl⟩) rfl rfl rfl rfl (Nat.le_of_ble_eq_true rfl) dX5_complaint_16 (fun r3 τ3 hJ => ?_)
    obtain ⟨hJt, hJf⟩ := hJ
    refine V_if_ne C (tgt := 25) dX5_complaint_19 rfl (fun hc4 => ?_) (fun hc4 => ?_)
    · have hJ := hJt hc4; clear hJt hJf
      refine V_aload_n C dX5_complaint_25 0 rfl ?_
      refine V_get (ci := 5) C okX_0_0 uX5 rfl 0 (Nat.le_of_ble_eq_true rfl) rfl rfl f10 dX5_complaint_26 ?_
      refine V_iload_n C dX5_complaint_29 2 rfl ?_
      refine V_iload_n C dX5_complaint_30 1 rfl ?_
      refine V_cVi (st := []) (ci := 2) C (ok7 (by decide)) (M_X2_isYounger l D tc ad A 0 (by decide) x2 x1 hJ) (cwV 2 C.1.2.2.2.2 gX5_complaint_X2_isYounger rfl rfl rfl (by decide +kernel) ⟨Nat.le_of_ble_eq_true rfl, Nat.le_of_ble_eq_true rfl⟩) rfl rfl rfl rfl (Nat.le_of_ble_eq_true rfl) dX5_complaint_31 (fun r5 τ5 hJ => ?_)
      obtain ⟨hJt, hJf⟩ := hJ
      refine V_if_ne C (tgt := 40) dX5_complaint_34 rfl (fun hc6 => ?_) (fun hc6 => ?_)
      · have hJ := hJt hc6; clear hJt hJf
        refine V_aload_n C dX5_complaint_40 0 rfl ?_
        refine V_iload_n C dX5_complaint_41 1 rfl ?_
        refine V_iload_n C dX5_complaint_42 2 rfl ?_
        refine V_cVi (st := []) (ci := 5) C okX_0_0 (M_X5_judge l D tc ad A x1 x2 hJ) (cwV 2 C.1.2.2.2.2 gX5_complaint_X5_judge rfl rfl rfl (by decide +kernel) ⟨Nat.le_of_ble_eq_true rfl, Nat.le_of_ble_eq_true rfl⟩) rfl rfl rfl rfl (Nat.le_of_ble_eq_true rfl) dX5_complaint_43 (fun r7 τ7 hJ => ?_)
        exact V_iret C hr hlocks dX5_complaint_46 hJ
      · have hJ := hJf hc6; clear hJt hJf
        refine V_bipush (v := (-103)) C dX5_complaint_37 cb_m103 ?_
        exact V_iret C hr hlocks dX5_complaint_39 hJ
    · have hJ := hJf hc4; clear hJt hJf
      refine V_bipush (v := (-101)) C dX5_complaint_22 cb_m101 ?_
      exact V_iret C hr hlocks dX5_complaint_24 hJ
set_option maxHeartbeats 4000000 in
set_option maxRecDepth 100000 in
theorem M_X5_ditches (l : Launch) (D : va_G) (tc : Nat → ClassId) (ad : Oid → Nat) (A : Nat → Prop) {σ : Mem} {Qr : Int32 → Mem → Prop} (hJ : J_X5_ditches σ Qr) : Met l yX5_ditches wsX5_ditches ({ frames := 0, cells := 0, slots := 0, locals := 0 }) (va_Pc [.ref (ad (0, 0, 0))] (WdI D vwCl (tysX tc) idsX ad (ceX tc ad) A σ)) (va_Qi (fun (r : Int32) (u : Mem) => Qr r u) (WdO D vwCl idsX ad (ceX tc ad) A) A) 0 0 A := by
  refine V_meti (cc := cX5_ditches) (nL := 1) (ret := (some .int)) (own := RX5) rfl (plainFor_of_name (by decide)) rfl rfl (Nat.le_of_ble_eq_true rfl) ?_
  intro p e s m below meth c C hr hlocks
  refine V_sub (lv' := [(0, .ref (ad (0, 0, 0)))]) [0] rfl ?_
  have f10 : Cond.fieldLink RX5 10 (TX5 0).1 (TX5 0).2.1 (TX5 0).2.2.1 ∈ wsX5_ditches := List.mem_of_getElem? (i := 1) rfl
  have uX5 : ∀ w ∈ u_ws RX5 TX5 6, w ∈ wsX5_ditches := by decide +kernel
  have f57 : Cond.fieldLink RX5 57 (TX2 5).1 (TX2 5).2.1 (TX2 5).2.2.1 ∈ wsX5_ditches := List.mem_of_getElem? (i := 2) rfl
  have uX2 : ∀ w ∈ u_ws RX2 TX2 10, w ∈ wsX5_ditches := by decide +kernel
  unfold J_X5_ditches at hJ
  refine V_aload_n C dX5_ditches_0 0 rfl ?_
  refine V_get (ci := 5) C okX_0_0 uX5 rfl 0 (Nat.le_of_ble_eq_true rfl) rfl rfl f10 dX5_ditches_1 ?_
  refine V_get (ci := 2) C (ok7 (by decide)) uX2 rfl 5 (Nat.le_of_ble_eq_true rfl) rfl rfl f57 dX5_ditches_4 ?_
  exact V_iret C hr hlocks dX5_ditches_7 hJ
set_option maxHeartbeats 4000000 in
set_option maxRecDepth 100000 in
theorem M_X5_faultPosition (l : Launch) (D : va_G) (tc : Nat → ClassId) (ad : Oid → Nat) (A : Nat → Prop) {σ : Mem} {Qr : Int32 → Mem → Prop} (hJ : J_X5_faultPosition σ Qr) : Met l yX5_faultPosition wsX5_faultPosition ({ frames := 6, cells := 0, slots := 0, locals := 131 }) (va_Pc [.ref (ad (0, 0, 0))] (WdI D vwCl (tysX tc) idsX ad (ceX tc ad) A σ)) (va_Qi (fun (r : Int32) (u : Mem) => Qr r u) (WdO D vwCl idsX ad (ceX tc ad) A) A) 0 0 A := by
  refine V_meti (cc := cX5_faultPosition) (nL := 1) (ret := (some .int)) (own := RX5) rfl (plainFor_of_name (by decide)) rfl rfl (Nat.le_of_ble_eq_true rfl) ?_
  intro p e s m below meth c C hr hlocks
  refine V_sub (lv' := [(0, .ref (ad (0, 0, 0)))]) [0] rfl ?_
  have f16 : Cond.fieldLink RX5 16 (TX5 1).1 (TX5 1).2.1 (TX5 1).2.2.1 ∈ wsX5_faultPosition := List.mem_of_getElem? (i := 1) rfl
  have uX5 : ∀ w ∈ u_ws RX5 TX5 6, w ∈ wsX5_faultPosition := by decide +kernel
  have f10 : Cond.fieldLink RX5 10 (TX5 0).1 (TX5 0).2.1 (TX5 0).2.2.1 ∈ wsX5_faultPosition := List.mem_of_getElem? (i := 2) rfl
  have f37 : Cond.fieldLink RX5 37 (TX5 5).1 (TX5 5).2.1 (TX5 5).2.2.1 ∈ wsX5_faultPosition := List.mem_of_getElem? (i := 3) rfl
  have f220 : Cond.fieldLink RX5 220 (TX3 1).1 (TX3 1).2.1 (TX3 1).2.2.1 ∈ wsX5_faultPosition := List.mem_of_getElem? (i := 4) rfl
  have uX3 : ∀ w ∈ u_ws RX3 TX3 5, w ∈ wsX5_faultPosition := by decide +kernel
  unfold J_X5_faultPosition at hJ
  refine V_aload_n C dX5_faultPosition_0 0 rfl ?_
  refine V_get (ci := 5) C okX_0_0 uX5 rfl 1 (Nat.le_of_ble_eq_true rfl) rfl rfl f16 dX5_faultPosition_1 ?_
  refine V_aload_n C dX5_faultPosition_4 0 rfl ?_
  refine V_get (ci := 5) C okX_0_0 uX5 rfl 0 (Nat.le_of_ble_eq_true rfl) rfl rfl f10 dX5_faultPosition_5 ?_
  refine V_cVv (st := []) (ci := 2) C (ok7 (by decide)) (M_X2_copyFrom l D tc ad A 1 (by decide) 0 (by decide) hJ) (cwV 1 C.1.2.2.2.2 gX5_faultPosition_X2_copyFrom rfl rfl rfl (by decide +kernel) ⟨Nat.le_of_ble_eq_true rfl, Nat.le_of_ble_eq_true rfl⟩) rfl rfl rfl rfl (Nat.le_of_ble_eq_true rfl) dX5_faultPosition_8 (fun τ1 hJ => ?_)
  refine V_aload_n C dX5_faultPosition_11 0 rfl ?_
  refine V_get (ci := 5) C okX_0_0 uX5 rfl 5 (Nat.le_of_ble_eq_true rfl) rfl rfl f37 dX5_faultPosition_12 ?_
  refine V_aload_n C dX5_faultPosition_15 0 rfl ?_
  refine V_get (ci := 5) C okX_0_0 uX5 rfl 1 (Nat.le_of_ble_eq_true rfl) rfl rfl f16 dX5_faultPosition_16 ?_
  refine V_cVv (st := []) (ci := 3) C okX_5_0 (M_X3_carryOut l D tc ad A 1 (by decide) hJ) (cwV 1 C.1.2.2.2.2 gX5_faultPosition_X3_carryOut rfl rfl rfl (by decide +kernel) ⟨Nat.le_of_ble_eq_true rfl, Nat.le_of_ble_eq_true rfl⟩) rfl rfl rfl rfl (Nat.le_of_ble_eq_true rfl) dX5_faultPosition_19 (fun τ2 hJ => ?_)
  refine V_aload_n C dX5_faultPosition_22 0 rfl ?_
  refine V_get (ci := 5) C okX_0_0 uX5 rfl 5 (Nat.le_of_ble_eq_true rfl) rfl rfl f37 dX5_faultPosition_23 ?_
  refine V_get (ci := 3) C okX_5_0 uX3 rfl 1 (Nat.le_of_ble_eq_true rfl) rfl rfl f220 dX5_faultPosition_26 ?_
  exact V_iret C hr hlocks dX5_faultPosition_29 hJ
set_option maxHeartbeats 4000000 in
set_option maxRecDepth 100000 in
theorem M_X5_gain (l : Launch) (D : va_G) (tc : Nat → ClassId) (ad : Oid → Nat) (A : Nat → Prop) (x1 : Int32) (x2 : Int32) {σ : Mem} {Qr : Int32 → Mem → Prop} (hJ : J_X5_gain x1 x2 σ Qr) : Met l yX5_gain wsX5_gain ({ frames := 5, cells := 0, slots := 0, locals := 116 }) (va_Pc [.ref (ad (0, 0, 0)), .int x1, .int x2] (WdI D vwCl (tysX tc) idsX ad (ceX tc ad) A σ)) (va_Qi (fun (r : Int32) (u : Mem) => Qr r u) (WdO D vwCl idsX ad (ceX tc ad) A) A) 0 0 A := by
  refine V_meti (cc := cX5_gain) (nL := 3) (ret := (some .int)) (own := RX5) rfl (plainFor_of_name (by decide)) rfl rfl (Nat.le_of_ble_eq_true rfl) ?_
  intro p e s m below meth c C hr hlocks
  refine V_sub (lv' := [(0, .ref (ad (0, 0, 0))), (1, .int x1), (2, .int x2)]) [0, 1, 2] rfl ?_
  have f10 : Cond.fieldLink RX5 10 (TX5 0).1 (TX5 0).2.1 (TX5 0).2.2.1 ∈ wsX5_gain := List.mem_of_getElem? (i := 1) rfl
  have uX5 : ∀ w ∈ u_ws RX5 TX5 6, w ∈ wsX5_gain := by decide +kernel
  unfold J_X5_gain at hJ
  refine V_aload_n C dX5_gain_0 0 rfl ?_
  refine V_get (ci := 5) C okX_0_0 uX5 rfl 0 (Nat.le_of_ble_eq_true rfl) rfl rfl f10 dX5_gain_1 ?_
  refine V_iload_n C dX5_gain_4 1 rfl ?_
  refine V_cVi (st := []) (ci := 2) C (ok7 (by decide)) (M_X2_hasUser l D tc ad A 0 (by decide) x1 hJ) (cwV 1 C.1.2.2.2.2 gX5_gain_X2_hasUser rfl rfl rfl (by decide +kernel) ⟨Nat.le_of_ble_eq_true rfl, Nat.le_of_ble_eq_true rfl⟩) rfl rfl rfl rfl (Nat.le_of_ble_eq_true rfl) dX5_gain_5 (fun r1 τ1 hJ => ?_)
  obtain ⟨hJt, hJf⟩ := hJ
  refine V_if_eq C (tgt := 22) dX5_gain_8 rfl (fun hc2 => ?_) (fun hc2 => ?_)
  · have hJ := hJt hc2; clear hJt hJf
    refine V_bipush (v := (-101)) C dX5_gain_22 cb_m101 ?_
    exact V_iret C hr hlocks dX5_gain_24 hJ
  · have hJ := hJf hc2; clear hJt hJf
    refine V_aload_n C dX5_gain_11 0 rfl ?_
    refine V_get (ci := 5) C okX_0_0 uX5 rfl 0 (Nat.le_of_ble_eq_true rfl) rfl rfl f10 dX5_gain_12 ?_
    refine V_iload_n C dX5_gain_15 2 rfl ?_
    refine V_cVi (st := []) (ci := 2) C (ok7 (by decide)) (M_X2_hasUser l D tc ad A 0 (by decide) x2 hJ) (cwV 1 C.1.2.2.2.2 gX5_gain_X2_hasUser rfl rfl rfl (by decide +kernel) ⟨Nat.le_of_ble_eq_true rfl, Nat.le_of_ble_eq_true rfl⟩) rfl rfl rfl rfl (Nat.le_of_ble_eq_true rfl) dX5_gain_16 (fun r3 τ3 hJ => ?_)
    obtain ⟨hJt, hJf⟩ := hJ
    refine V_if_ne C (tgt := 25) dX5_gain_19 rfl (fun hc4 => ?_) (fun hc4 => ?_)
    · have hJ := hJt hc4; clear hJt hJf
      refine V_aload_n C dX5_gain_25 0 rfl ?_
      refine V_get (ci := 5) C okX_0_0 uX5 rfl 0 (Nat.le_of_ble_eq_true rfl) rfl rfl f10 dX5_gain_26 ?_
      refine V_iload_n C dX5_gain_29 2 rfl ?_
      refine V_iload_n C dX5_gain_30 1 rfl ?_
      refine V_cVi (st := []) (ci := 2) C (ok7 (by decide)) (M_X2_isYounger l D tc ad A 0 (by decide) x2 x1 hJ) (cwV 2 C.1.2.2.2.2 gX5_gain_X2_isYounger rfl rfl rfl (by decide +kernel) ⟨Nat.le_of_ble_eq_true rfl, Nat.le_of_ble_eq_true rfl⟩) rfl rfl rfl rfl (Nat.le_of_ble_eq_true rfl) dX5_gain_31 (fun r5 τ5 hJ => ?_)
      obtain ⟨hJt, hJf⟩ := hJ
      refine V_if_ne C (tgt := 40) dX5_gain_34 rfl (fun hc6 => ?_) (fun hc6 => ?_)
      · have hJ := hJt hc6; clear hJt hJf
        refine V_aload_n C dX5_gain_40 0 rfl ?_
        refine V_iload_n C dX5_gain_41 1 rfl ?_
        refine V_iload_n C dX5_gain_42 2 rfl ?_
        refine V_cVi (st := []) (ci := 5) C okX_0_0 (M_X5_gainOf l D tc ad A x1 x2 hJ) (cwV 2 C.1.2.2.2.2 gX5_gain_X5_gainOf rfl rfl rfl (by decide +kernel) ⟨Nat.le_of_ble_eq_true rfl, Nat.le_of_ble_eq_true rfl⟩) rfl rfl rfl rfl (Nat.le_of_ble_eq_true rfl) dX5_gain_43 (fun r7 τ7 hJ => ?_)
        exact V_iret C hr hlocks dX5_gain_46 hJ
      · have hJ := hJf hc6; clear hJt hJf
        refine V_bipush (v := (-103)) C dX5_gain_37 cb_m103 ?_
        exact V_iret C hr hlocks dX5_gain_39 hJ
    · have hJ := hJf hc4; clear hJt hJf
      refine V_bipush (v := (-101)) C dX5_gain_22 cb_m101 ?_
      exact V_iret C hr hlocks dX5_gain_24 hJ
