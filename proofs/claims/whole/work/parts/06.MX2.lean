set_option maxHeartbeats 4000000 in
set_option maxRecDepth 100000 in
theorem M_X5_gets (l : Launch) (D : va_G) (tc : Nat → ClassId) (ad : Oid → Nat) (A : Nat → Prop) (x1 : Int32) {σ : Mem} {Qr : Int32 → Mem → Prop} (hJ : J_X5_gets x1 σ Qr) : Met l yX5_gets wsX5_gets ({ frames := 4, cells := 0, slots := 0, locals := 93 }) (va_Pc [.ref (ad (0, 0, 0)), .int x1] (WdI D vwCl (tysX tc) idsX ad (ceX tc ad) A σ)) (va_Qi (fun (r : Int32) (u : Mem) => Qr r u) (WdO D vwCl idsX ad (ceX tc ad) A) A) 0 0 A := by
  refine V_meti (cc := cX5_gets) (nL := 2) (ret := (some .int)) (own := RX5) rfl (plainFor_of_name (by decide)) rfl rfl (Nat.le_of_ble_eq_true rfl) ?_
  intro p e s m below meth c C hr hlocks
  refine V_sub (lv' := [(0, .ref (ad (0, 0, 0))), (1, .int x1)]) [0, 1] rfl ?_
  have f10 : Cond.fieldLink RX5 10 (TX5 0).1 (TX5 0).2.1 (TX5 0).2.2.1 ∈ wsX5_gets := List.mem_of_getElem? (i := 1) rfl
  have uX5 : ∀ w ∈ u_ws RX5 TX5 6, w ∈ wsX5_gets := by decide +kernel
  have f30 : Cond.fieldLink RX5 30 (TX5 4).1 (TX5 4).2.1 (TX5 4).2.2.1 ∈ wsX5_gets := List.mem_of_getElem? (i := 2) rfl
  have f155 : Cond.fieldLink RX5 155 (TX1 1).1 (TX1 1).2.1 (TX1 1).2.2.1 ∈ wsX5_gets := List.mem_of_getElem? (i := 3) rfl
  have uX1 : ∀ w ∈ u_ws RX1 TX1 6, w ∈ wsX5_gets := by decide +kernel
  unfold J_X5_gets at hJ
  refine V_aload_n C dX5_gets_0 0 rfl ?_
  refine V_get (ci := 5) C okX_0_0 uX5 rfl 0 (Nat.le_of_ble_eq_true rfl) rfl rfl f10 dX5_gets_1 ?_
  refine V_iload_n C dX5_gets_4 1 rfl ?_
  refine V_cVi (st := []) (ci := 2) C (ok7 (by decide)) (M_X2_hasUser l D tc ad A 0 (by decide) x1 hJ) (cwV 1 C.1.2.2.2.2 gX5_gets_X2_hasUser rfl rfl rfl (by decide +kernel) ⟨Nat.le_of_ble_eq_true rfl, Nat.le_of_ble_eq_true rfl⟩) rfl rfl rfl rfl (Nat.le_of_ble_eq_true rfl) dX5_gets_5 (fun r1 τ1 hJ => ?_)
  obtain ⟨hJt, hJf⟩ := hJ
  refine V_if_ne C (tgt := 14) dX5_gets_8 rfl (fun hc2 => ?_) (fun hc2 => ?_)
  · have hJ := hJt hc2; clear hJt hJf
    refine V_aload_n C dX5_gets_14 0 rfl ?_
    refine V_get (ci := 5) C okX_0_0 uX5 rfl 4 (Nat.le_of_ble_eq_true rfl) rfl rfl f30 dX5_gets_15 ?_
    refine V_aload_n C dX5_gets_18 0 rfl ?_
    refine V_get (ci := 5) C okX_0_0 uX5 rfl 0 (Nat.le_of_ble_eq_true rfl) rfl rfl f10 dX5_gets_19 ?_
    refine V_cVv (st := []) (ci := 1) C okX_3_0 (M_X1_distribute l D tc ad A 0 (by decide) hJ) (cwV 1 C.1.2.2.2.2 gX5_gets_X1_distribute rfl rfl rfl (by decide +kernel) ⟨Nat.le_of_ble_eq_true rfl, Nat.le_of_ble_eq_true rfl⟩) rfl rfl rfl rfl (Nat.le_of_ble_eq_true rfl) dX5_gets_22 (fun τ3 hJ => ?_)
    refine V_aload_n C dX5_gets_25 0 rfl ?_
    refine V_get (ci := 5) C okX_0_0 uX5 rfl 4 (Nat.le_of_ble_eq_true rfl) rfl rfl f30 dX5_gets_26 ?_
    refine V_get (ci := 1) C okX_3_0 uX1 rfl 1 (Nat.le_of_ble_eq_true rfl) rfl rfl f155 dX5_gets_29 ?_
    refine V_iload_n C dX5_gets_32 1 rfl ?_
    obtain ⟨hv4, hJ⟩ := hJ
    refine V_iald C okX_4_1 0 rfl rfl rfl hv4 dX5_gets_33 ?_
    exact V_iret C hr hlocks dX5_gets_34 hJ
  · have hJ := hJf hc2; clear hJt hJf
    refine V_bipush (v := (-101)) C dX5_gets_11 cb_m101 ?_
    exact V_iret C hr hlocks dX5_gets_13 hJ
set_option maxHeartbeats 4000000 in
set_option maxRecDepth 100000 in
theorem M_X5_hoursToFull (l : Launch) (D : va_G) (tc : Nat → ClassId) (ad : Oid → Nat) (A : Nat → Prop) (x1 : Int32) {σ : Mem} {Qr : Int32 → Mem → Prop} (hJ : J_X5_hoursToFull x1 σ Qr) : Met l yX5_hoursToFull wsX5_hoursToFull ({ frames := 5, cells := 0, slots := 0, locals := 116 }) (va_Pc [.ref (ad (0, 0, 0)), .int x1] (WdI D vwCl (tysX tc) idsX ad (ceX tc ad) A σ)) (va_Qi (fun (r : Int32) (u : Mem) => Qr r u) (WdO D vwCl idsX ad (ceX tc ad) A) A) 0 0 A := by
  refine V_meti (cc := cX5_hoursToFull) (nL := 3) (ret := (some .int)) (own := RX5) rfl (plainFor_of_name (by decide)) rfl rfl (Nat.le_of_ble_eq_true rfl) ?_
  intro p e s m below meth c C hr hlocks
  refine V_sub (lv' := [(0, .ref (ad (0, 0, 0))), (1, .int x1)]) [0, 1] rfl ?_
  have f10 : Cond.fieldLink RX5 10 (TX5 0).1 (TX5 0).2.1 (TX5 0).2.2.1 ∈ wsX5_hoursToFull := List.mem_of_getElem? (i := 1) rfl
  have uX5 : ∀ w ∈ u_ws RX5 TX5 6, w ∈ wsX5_hoursToFull := by decide +kernel
  have f16 : Cond.fieldLink RX5 16 (TX5 1).1 (TX5 1).2.1 (TX5 1).2.2.1 ∈ wsX5_hoursToFull := List.mem_of_getElem? (i := 2) rfl
  have f92 : Cond.fieldLink RX5 92 (TX2 1).1 (TX2 1).2.1 (TX2 1).2.2.1 ∈ wsX5_hoursToFull := List.mem_of_getElem? (i := 3) rfl
  have uX2 : ∀ w ∈ u_ws RX2 TX2 10, w ∈ wsX5_hoursToFull := by decide +kernel
  have f30 : Cond.fieldLink RX5 30 (TX5 4).1 (TX5 4).2.1 (TX5 4).2.2.1 ∈ wsX5_hoursToFull := List.mem_of_getElem? (i := 4) rfl
  unfold J_X5_hoursToFull at hJ
  refine V_aload_n C dX5_hoursToFull_0 0 rfl ?_
  refine V_get (ci := 5) C okX_0_0 uX5 rfl 0 (Nat.le_of_ble_eq_true rfl) rfl rfl f10 dX5_hoursToFull_1 ?_
  refine V_iload_n C dX5_hoursToFull_4 1 rfl ?_
  refine V_cVi (st := []) (ci := 2) C (ok7 (by decide)) (M_X2_hasUser l D tc ad A 0 (by decide) x1 hJ) (cwV 1 C.1.2.2.2.2 gX5_hoursToFull_X2_hasUser rfl rfl rfl (by decide +kernel) ⟨Nat.le_of_ble_eq_true rfl, Nat.le_of_ble_eq_true rfl⟩) rfl rfl rfl rfl (Nat.le_of_ble_eq_true rfl) dX5_hoursToFull_5 (fun r1 τ1 hJ => ?_)
  obtain ⟨hJt, hJf⟩ := hJ
  refine V_if_ne C (tgt := 14) dX5_hoursToFull_8 rfl (fun hc2 => ?_) (fun hc2 => ?_)
  · have hJ := hJt hc2; clear hJt hJf
    refine V_aload_n C dX5_hoursToFull_14 0 rfl ?_
    refine V_get (ci := 5) C okX_0_0 uX5 rfl 1 (Nat.le_of_ble_eq_true rfl) rfl rfl f16 dX5_hoursToFull_15 ?_
    refine V_aload_n C dX5_hoursToFull_18 0 rfl ?_
    refine V_get (ci := 5) C okX_0_0 uX5 rfl 0 (Nat.le_of_ble_eq_true rfl) rfl rfl f10 dX5_hoursToFull_19 ?_
    refine V_cVv (st := []) (ci := 2) C (ok7 (by decide)) (M_X2_copyFrom l D tc ad A 1 (by decide) 0 (by decide) hJ) (cwV 1 C.1.2.2.2.2 gX5_hoursToFull_X2_copyFrom rfl rfl rfl (by decide +kernel) ⟨Nat.le_of_ble_eq_true rfl, Nat.le_of_ble_eq_true rfl⟩) rfl rfl rfl rfl (Nat.le_of_ble_eq_true rfl) dX5_hoursToFull_22 (fun τ3 hJ => ?_)
    refine V_iconst (v := 0) C dX5_hoursToFull_25 ci_0 ?_
    refine V_istore_n (lv' := [(2, .int 0), (0, .ref (ad (0, 0, 0))), (1, .int x1)]) C dX5_hoursToFull_26 (by decide) rfl ?_
    refine V_sub (lv' := [(0, .ref (ad (0, 0, 0))), (1, .int x1), (2, .int 0)]) [1, 2, 0] rfl ?_
    obtain ⟨I27, μ27, hI27, hst27⟩ := hJ
    have L27 : ∀ (n : Nat) (x2_4 : Int32) (τ4 : Mem), μ27 x2_4 τ4 < n → I27 x2_4 τ4 → VV p l e (headSpec wsX5_hoursToFull ({ frames := 5, cells := 0, slots := 0, locals := 116 })).room s m ([.ref (ad (0, 0, 0)), .int x1] : List Value).toArray below meth c D vwCl idsX ad (ceX tc ad) A (MQ below (va_Qi (fun (r : Int32) (u : Mem) => Qr r u) (WdO D vwCl idsX ad (ceX tc ad) A) A) ([.ref (ad (0, 0, 0)), .int x1] : List Value).toArray s 0 0 A) 3 27 [(0, .ref (ad (0, 0, 0))), (1, .int x1), (2, .int x2_4)] [] τ4 := by
      intro n
      induction n with
      | zero => intro x2_4 τ4 hμ _; exact absurd hμ (Nat.not_lt_zero _)
      | succ n ihn =>
        intro x2_4 τ4 hμ27 hJ
        have ih27 := ihn
        replace hJ := hst27 x2_4 τ4 hJ
        refine V_iload_n C dX5_hoursToFull_27 2 rfl ?_
        refine V_bipush (v := 48) C dX5_hoursToFull_28 cb_48 ?_
        obtain ⟨hJt, hJf⟩ := hJ
        refine V_icmp_ge C (tgt := 68) dX5_hoursToFull_30 rfl (fun hc5 => ?_) (fun hc5 => ?_)
        · have hJ := hJt hc5; clear hJt hJf
          refine V_aload_n C dX5_hoursToFull_68 0 rfl ?_
          refine V_get (ci := 5) C okX_0_0 uX5 rfl 1 (Nat.le_of_ble_eq_true rfl) rfl rfl f16 dX5_hoursToFull_69 ?_
          refine V_get (ci := 2) C (ok7 (by decide)) uX2 rfl 1 (Nat.le_of_ble_eq_true rfl) rfl rfl f92 dX5_hoursToFull_72 ?_
          refine V_iload_n C dX5_hoursToFull_75 1 rfl ?_
          obtain ⟨hv6, hJ⟩ := hJ
          refine V_aald (o' := (14, 1, x1.toNatClampNeg)) C (ok9 (by decide)) 4 rfl rfl hv6 rfl dX5_hoursToFull_76 ?_
          refine V_cVi (st := []) (ci := 4) C (ok14 (by decide) (vp_lt hv6)) (M_X4_room l D tc ad A 1 x1.toNatClampNeg (by decide) (vp_lt hv6) hJ) (cwV 0 C.1.2.2.2.2 gX5_hoursToFull_X4_room rfl rfl rfl (by decide +kernel) ⟨Nat.le_of_ble_eq_true rfl, Nat.le_of_ble_eq_true rfl⟩) rfl rfl rfl rfl (Nat.le_of_ble_eq_true rfl) dX5_hoursToFull_77 (fun r7 τ7 hJ => ?_)
          obtain ⟨hJt, hJf⟩ := hJ
          refine V_if_ne C (tgt := 88) dX5_hoursToFull_80 rfl (fun hc8 => ?_) (fun hc8 => ?_)
          · have hJ := hJt hc8; clear hJt hJf
            refine V_bipush (v := (-105)) C dX5_hoursToFull_88 cb_m105 ?_
            exact V_iret C hr hlocks dX5_hoursToFull_90 hJ
          · have hJ := hJf hc8; clear hJt hJf
            refine V_bipush (v := 48) C dX5_hoursToFull_83 cb_48 ?_
            refine V_goto C (tgt := 90) dX5_hoursToFull_85 rfl ?_
            exact V_iret C hr hlocks dX5_hoursToFull_90 hJ
        · have hJ := hJf hc5; clear hJt hJf
          refine V_aload_n C dX5_hoursToFull_33 0 rfl ?_
          refine V_get (ci := 5) C okX_0_0 uX5 rfl 1 (Nat.le_of_ble_eq_true rfl) rfl rfl f16 dX5_hoursToFull_34 ?_
          refine V_get (ci := 2) C (ok7 (by decide)) uX2 rfl 1 (Nat.le_of_ble_eq_true rfl) rfl rfl f92 dX5_hoursToFull_37 ?_
          refine V_iload_n C dX5_hoursToFull_40 1 rfl ?_
          obtain ⟨hv9, hJ⟩ := hJ
          refine V_aald (o' := (14, 1, x1.toNatClampNeg)) C (ok9 (by decide)) 4 rfl rfl hv9 rfl dX5_hoursToFull_41 ?_
          refine V_cVi (st := []) (ci := 4) C (ok14 (by decide) (vp_lt hv9)) (M_X4_room l D tc ad A 1 x1.toNatClampNeg (by decide) (vp_lt hv9) hJ) (cwV 0 C.1.2.2.2.2 gX5_hoursToFull_X4_room rfl rfl rfl (by decide +kernel) ⟨Nat.le_of_ble_eq_true rfl, Nat.le_of_ble_eq_true rfl⟩) rfl rfl rfl rfl (Nat.le_of_ble_eq_true rfl) dX5_hoursToFull_42 (fun r10 τ10 hJ => ?_)
          obtain ⟨hJt, hJf⟩ := hJ
          refine V_if_ne C (tgt := 50) dX5_hoursToFull_45 rfl (fun hc11 => ?_) (fun hc11 => ?_)
          · have hJ := hJt hc11; clear hJt hJf
            refine V_aload_n C dX5_hoursToFull_50 0 rfl ?_
            refine V_get (ci := 5) C okX_0_0 uX5 rfl 1 (Nat.le_of_ble_eq_true rfl) rfl rfl f16 dX5_hoursToFull_51 ?_
            refine V_aload_n C dX5_hoursToFull_54 0 rfl ?_
            refine V_get (ci := 5) C okX_0_0 uX5 rfl 4 (Nat.le_of_ble_eq_true rfl) rfl rfl f30 dX5_hoursToFull_55 ?_
            refine V_cVi (st := []) (ci := 2) C (ok7 (by decide)) (M_X2_passHour l D tc ad A 1 (by decide) hJ) (cwV 1 C.1.2.2.2.2 gX5_hoursToFull_X2_passHour rfl rfl rfl (by decide +kernel) ⟨Nat.le_of_ble_eq_true rfl, Nat.le_of_ble_eq_true rfl⟩) rfl rfl rfl rfl (Nat.le_of_ble_eq_true rfl) dX5_hoursToFull_58 (fun r12 τ12 hJ => ?_)
            refine V_pop C dX5_hoursToFull_61 rfl ?_
            obtain ⟨x2_13, hx2_13⟩ : ∃ y : Int32, y = x2_4 + 1 := ⟨_, rfl⟩
            replace hJ := hJ x2_13 hx2_13
            refine V_iinc (v := x2_13) (lv' := [(2, .int x2_13), (0, .ref (ad (0, 0, 0))), (1, .int x1)]) C dX5_hoursToFull_62 2 rfl (by rw [hx2_13]; exact congrArg _ ci_1) (by decide) rfl ?_
            refine V_goto C (tgt := 27) dX5_hoursToFull_65 rfl ?_
            refine V_sub (lv' := [(0, .ref (ad (0, 0, 0))), (1, .int x1), (2, .int x2_13)]) [1, 2, 0] rfl ?_
            exact ih27 x2_13 τ12 (Nat.lt_of_lt_of_le hJ.2 (Nat.le_of_lt_succ hμ27)) hJ.1
          · have hJ := hJf hc11; clear hJt hJf
            refine V_iload_n C dX5_hoursToFull_48 2 rfl ?_
            exact V_iret C hr hlocks dX5_hoursToFull_49 hJ
    exact L27 _ 0 τ3 (Nat.lt_succ_self _) hI27
  · have hJ := hJf hc2; clear hJt hJf
    refine V_bipush (v := (-101)) C dX5_hoursToFull_11 cb_m101 ?_
    exact V_iret C hr hlocks dX5_hoursToFull_13 hJ
set_option maxHeartbeats 4000000 in
set_option maxRecDepth 100000 in
theorem M_X5_inflow (l : Launch) (D : va_G) (tc : Nat → ClassId) (ad : Oid → Nat) (A : Nat → Prop) (x1 : Int32) {σ : Mem} {Qr : Int32 → Mem → Prop} (hJ : J_X5_inflow x1 σ Qr) : Met l yX5_inflow wsX5_inflow ({ frames := 4, cells := 0, slots := 0, locals := 93 }) (va_Pc [.ref (ad (0, 0, 0)), .int x1] (WdI D vwCl (tysX tc) idsX ad (ceX tc ad) A σ)) (va_Qi (fun (r : Int32) (u : Mem) => Qr r u) (WdO D vwCl idsX ad (ceX tc ad) A) A) 0 0 A := by
  refine V_meti (cc := cX5_inflow) (nL := 2) (ret := (some .int)) (own := RX5) rfl (plainFor_of_name (by decide)) rfl rfl (Nat.le_of_ble_eq_true rfl) ?_
  intro p e s m below meth c C hr hlocks
  refine V_sub (lv' := [(0, .ref (ad (0, 0, 0))), (1, .int x1)]) [0, 1] rfl ?_
  have f10 : Cond.fieldLink RX5 10 (TX5 0).1 (TX5 0).2.1 (TX5 0).2.2.1 ∈ wsX5_inflow := List.mem_of_getElem? (i := 1) rfl
  have uX5 : ∀ w ∈ u_ws RX5 TX5 6, w ∈ wsX5_inflow := by decide +kernel
  have f30 : Cond.fieldLink RX5 30 (TX5 4).1 (TX5 4).2.1 (TX5 4).2.2.1 ∈ wsX5_inflow := List.mem_of_getElem? (i := 2) rfl
  have f158 : Cond.fieldLink RX5 158 (TX1 2).1 (TX1 2).2.1 (TX1 2).2.2.1 ∈ wsX5_inflow := List.mem_of_getElem? (i := 3) rfl
  have uX1 : ∀ w ∈ u_ws RX1 TX1 6, w ∈ wsX5_inflow := by decide +kernel
  unfold J_X5_inflow at hJ
  refine V_aload_n C dX5_inflow_0 0 rfl ?_
  refine V_get (ci := 5) C okX_0_0 uX5 rfl 0 (Nat.le_of_ble_eq_true rfl) rfl rfl f10 dX5_inflow_1 ?_
  refine V_iload_n C dX5_inflow_4 1 rfl ?_
  refine V_cVi (st := []) (ci := 2) C (ok7 (by decide)) (M_X2_hasDitch l D tc ad A 0 (by decide) x1 hJ) (cwV 1 C.1.2.2.2.2 gX5_inflow_X2_hasDitch rfl rfl rfl (by decide +kernel) ⟨Nat.le_of_ble_eq_true rfl, Nat.le_of_ble_eq_true rfl⟩) rfl rfl rfl rfl (Nat.le_of_ble_eq_true rfl) dX5_inflow_5 (fun r1 τ1 hJ => ?_)
  obtain ⟨hJt, hJf⟩ := hJ
  refine V_if_ne C (tgt := 14) dX5_inflow_8 rfl (fun hc2 => ?_) (fun hc2 => ?_)
  · have hJ := hJt hc2; clear hJt hJf
    refine V_aload_n C dX5_inflow_14 0 rfl ?_
    refine V_get (ci := 5) C okX_0_0 uX5 rfl 4 (Nat.le_of_ble_eq_true rfl) rfl rfl f30 dX5_inflow_15 ?_
    refine V_aload_n C dX5_inflow_18 0 rfl ?_
    refine V_get (ci := 5) C okX_0_0 uX5 rfl 0 (Nat.le_of_ble_eq_true rfl) rfl rfl f10 dX5_inflow_19 ?_
    refine V_cVv (st := []) (ci := 1) C okX_3_0 (M_X1_distribute l D tc ad A 0 (by decide) hJ) (cwV 1 C.1.2.2.2.2 gX5_inflow_X1_distribute rfl rfl rfl (by decide +kernel) ⟨Nat.le_of_ble_eq_true rfl, Nat.le_of_ble_eq_true rfl⟩) rfl rfl rfl rfl (Nat.le_of_ble_eq_true rfl) dX5_inflow_22 (fun τ3 hJ => ?_)
    refine V_aload_n C dX5_inflow_25 0 rfl ?_
    refine V_get (ci := 5) C okX_0_0 uX5 rfl 4 (Nat.le_of_ble_eq_true rfl) rfl rfl f30 dX5_inflow_26 ?_
    refine V_get (ci := 1) C okX_3_0 uX1 rfl 2 (Nat.le_of_ble_eq_true rfl) rfl rfl f158 dX5_inflow_29 ?_
    refine V_iload_n C dX5_inflow_32 1 rfl ?_
    obtain ⟨hv4, hJ⟩ := hJ
    refine V_iald C okX_15_0 0 rfl rfl rfl hv4 dX5_inflow_33 ?_
    exact V_iret C hr hlocks dX5_inflow_34 hJ
  · have hJ := hJf hc2; clear hJt hJf
    refine V_bipush (v := (-101)) C dX5_inflow_11 cb_m101 ?_
    exact V_iret C hr hlocks dX5_inflow_13 hJ
set_option maxHeartbeats 4000000 in
set_option maxRecDepth 100000 in
theorem M_X5_isShut (l : Launch) (D : va_G) (tc : Nat → ClassId) (ad : Oid → Nat) (A : Nat → Prop) (x1 : Int32) {σ : Mem} {Qr : Int32 → Mem → Prop} (hJ : J_X5_isShut x1 σ Qr) : Met l yX5_isShut wsX5_isShut ({ frames := 1, cells := 0, slots := 0, locals := 21 }) (va_Pc [.ref (ad (0, 0, 0)), .int x1] (WdI D vwCl (tysX tc) idsX ad (ceX tc ad) A σ)) (va_Qi (fun (r : Int32) (u : Mem) => Qr r u) (WdO D vwCl idsX ad (ceX tc ad) A) A) 0 0 A := by
  refine V_meti (cc := cX5_isShut) (nL := 2) (ret := (some .int)) (own := RX5) rfl (plainFor_of_name (by decide)) rfl rfl (Nat.le_of_ble_eq_true rfl) ?_
  intro p e s m below meth c C hr hlocks
  refine V_sub (lv' := [(0, .ref (ad (0, 0, 0))), (1, .int x1)]) [0, 1] rfl ?_
  have f10 : Cond.fieldLink RX5 10 (TX5 0).1 (TX5 0).2.1 (TX5 0).2.2.1 ∈ wsX5_isShut := List.mem_of_getElem? (i := 1) rfl
  have uX5 : ∀ w ∈ u_ws RX5 TX5 6, w ∈ wsX5_isShut := by decide +kernel
  have f92 : Cond.fieldLink RX5 92 (TX2 1).1 (TX2 1).2.1 (TX2 1).2.2.1 ∈ wsX5_isShut := List.mem_of_getElem? (i := 2) rfl
  have uX2 : ∀ w ∈ u_ws RX2 TX2 10, w ∈ wsX5_isShut := by decide +kernel
  have f203 : Cond.fieldLink RX5 203 (TX4 11).1 (TX4 11).2.1 (TX4 11).2.2.1 ∈ wsX5_isShut := List.mem_of_getElem? (i := 3) rfl
  have uX4 : ∀ w ∈ u_ws RX4 TX4 12, w ∈ wsX5_isShut := by decide +kernel
  unfold J_X5_isShut at hJ
  refine V_aload_n C dX5_isShut_0 0 rfl ?_
  refine V_get (ci := 5) C okX_0_0 uX5 rfl 0 (Nat.le_of_ble_eq_true rfl) rfl rfl f10 dX5_isShut_1 ?_
  refine V_iload_n C dX5_isShut_4 1 rfl ?_
  refine V_cVi (st := []) (ci := 2) C (ok7 (by decide)) (M_X2_hasUser l D tc ad A 0 (by decide) x1 hJ) (cwV 1 C.1.2.2.2.2 gX5_isShut_X2_hasUser rfl rfl rfl (by decide +kernel) ⟨Nat.le_of_ble_eq_true rfl, Nat.le_of_ble_eq_true rfl⟩) rfl rfl rfl rfl (Nat.le_of_ble_eq_true rfl) dX5_isShut_5 (fun r1 τ1 hJ => ?_)
  obtain ⟨hJt, hJf⟩ := hJ
  refine V_if_ne C (tgt := 14) dX5_isShut_8 rfl (fun hc2 => ?_) (fun hc2 => ?_)
  · have hJ := hJt hc2; clear hJt hJf
    refine V_aload_n C dX5_isShut_14 0 rfl ?_
    refine V_get (ci := 5) C okX_0_0 uX5 rfl 0 (Nat.le_of_ble_eq_true rfl) rfl rfl f10 dX5_isShut_15 ?_
    refine V_get (ci := 2) C (ok7 (by decide)) uX2 rfl 1 (Nat.le_of_ble_eq_true rfl) rfl rfl f92 dX5_isShut_18 ?_
    refine V_iload_n C dX5_isShut_21 1 rfl ?_
    obtain ⟨hv3, hJ⟩ := hJ
    refine V_aald (o' := (14, 0, x1.toNatClampNeg)) C (ok9 (by decide)) 4 rfl rfl hv3 rfl dX5_isShut_22 ?_
    refine V_get (ci := 4) C (ok14 (by decide) (vp_lt hv3)) uX4 rfl 11 (Nat.le_of_ble_eq_true rfl) rfl rfl f203 dX5_isShut_23 ?_
    obtain ⟨hJt, hJf⟩ := hJ
    refine V_if_eq C (tgt := 33) dX5_isShut_26 rfl (fun hc4 => ?_) (fun hc4 => ?_)
    · have hJ := hJt hc4; clear hJt hJf
      refine V_iconst (v := 0) C dX5_isShut_33 ci_0 ?_
      exact V_iret C hr hlocks dX5_isShut_34 hJ
    · have hJ := hJf hc4; clear hJt hJf
      refine V_iconst (v := 1) C dX5_isShut_29 ci_1 ?_
      refine V_goto C (tgt := 34) dX5_isShut_30 rfl ?_
      exact V_iret C hr hlocks dX5_isShut_34 hJ
  · have hJ := hJf hc2; clear hJt hJf
    refine V_bipush (v := (-101)) C dX5_isShut_11 cb_m101 ?_
    exact V_iret C hr hlocks dX5_isShut_13 hJ
set_option maxHeartbeats 4000000 in
set_option maxRecDepth 100000 in
theorem M_X5_leastSupply (l : Launch) (D : va_G) (tc : Nat → ClassId) (ad : Oid → Nat) (A : Nat → Prop) (x1 : Int32) {σ : Mem} {Qr : Int32 → Mem → Prop} (hJ : J_X5_leastSupply x1 σ Qr) : Met l yX5_leastSupply wsX5_leastSupply ({ frames := 4, cells := 0, slots := 0, locals := 93 }) (va_Pc [.ref (ad (0, 0, 0)), .int x1] (WdI D vwCl (tysX tc) idsX ad (ceX tc ad) A σ)) (va_Qi (fun (r : Int32) (u : Mem) => Qr r u) (WdO D vwCl idsX ad (ceX tc ad) A) A) 0 0 A := by
  refine V_meti (cc := cX5_leastSupply) (nL := 4) (ret := (some .int)) (own := RX5) rfl (plainFor_of_name (by decide)) rfl rfl (Nat.le_of_ble_eq_true rfl) ?_
  intro p e s m below meth c C hr hlocks
  refine V_sub (lv' := [(0, .ref (ad (0, 0, 0))), (1, .int x1)]) [0, 1] rfl ?_
  have f10 : Cond.fieldLink RX5 10 (TX5 0).1 (TX5 0).2.1 (TX5 0).2.2.1 ∈ wsX5_leastSupply := List.mem_of_getElem? (i := 1) rfl
  have uX5 : ∀ w ∈ u_ws RX5 TX5 6, w ∈ wsX5_leastSupply := by decide +kernel
  have f16 : Cond.fieldLink RX5 16 (TX5 1).1 (TX5 1).2.1 (TX5 1).2.2.1 ∈ wsX5_leastSupply := List.mem_of_getElem? (i := 2) rfl
  have f125 : Cond.fieldLink RX5 125 (TX2 3).1 (TX2 3).2.1 (TX2 3).2.2.1 ∈ wsX5_leastSupply := List.mem_of_getElem? (i := 3) rfl
  have uX2 : ∀ w ∈ u_ws RX2 TX2 10, w ∈ wsX5_leastSupply := by decide +kernel
  have f30 : Cond.fieldLink RX5 30 (TX5 4).1 (TX5 4).2.1 (TX5 4).2.2.1 ∈ wsX5_leastSupply := List.mem_of_getElem? (i := 4) rfl
  unfold J_X5_leastSupply at hJ
  refine V_aload_n C dX5_leastSupply_0 0 rfl ?_
  refine V_get (ci := 5) C okX_0_0 uX5 rfl 0 (Nat.le_of_ble_eq_true rfl) rfl rfl f10 dX5_leastSupply_1 ?_
  refine V_iload_n C dX5_leastSupply_4 1 rfl ?_
  refine V_cVi (st := []) (ci := 2) C (ok7 (by decide)) (M_X2_hasUser l D tc ad A 0 (by decide) x1 hJ) (cwV 1 C.1.2.2.2.2 gX5_leastSupply_X2_hasUser rfl rfl rfl (by decide +kernel) ⟨Nat.le_of_ble_eq_true rfl, Nat.le_of_ble_eq_true rfl⟩) rfl rfl rfl rfl (Nat.le_of_ble_eq_true rfl) dX5_leastSupply_5 (fun r1 τ1 hJ => ?_)
  obtain ⟨hJt, hJf⟩ := hJ
  refine V_if_ne C (tgt := 14) dX5_leastSupply_8 rfl (fun hc2 => ?_) (fun hc2 => ?_)
  · have hJ := hJt hc2; clear hJt hJf
    refine V_aload_n C dX5_leastSupply_14 0 rfl ?_
    refine V_get (ci := 5) C okX_0_0 uX5 rfl 1 (Nat.le_of_ble_eq_true rfl) rfl rfl f16 dX5_leastSupply_15 ?_
    refine V_aload_n C dX5_leastSupply_18 0 rfl ?_
    refine V_get (ci := 5) C okX_0_0 uX5 rfl 0 (Nat.le_of_ble_eq_true rfl) rfl rfl f10 dX5_leastSupply_19 ?_
    refine V_cVv (st := []) (ci := 2) C (ok7 (by decide)) (M_X2_copyFrom l D tc ad A 1 (by decide) 0 (by decide) hJ) (cwV 1 C.1.2.2.2.2 gX5_leastSupply_X2_copyFrom rfl rfl rfl (by decide +kernel) ⟨Nat.le_of_ble_eq_true rfl, Nat.le_of_ble_eq_true rfl⟩) rfl rfl rfl rfl (Nat.le_of_ble_eq_true rfl) dX5_leastSupply_22 (fun τ3 hJ => ?_)
    refine V_aload_n C dX5_leastSupply_25 0 rfl ?_
    refine V_get (ci := 5) C okX_0_0 uX5 rfl 1 (Nat.le_of_ble_eq_true rfl) rfl rfl f16 dX5_leastSupply_26 ?_
    refine V_cVi (st := []) (ci := 2) C (ok7 (by decide)) (M_X2_hourOfDay l D tc ad A 1 (by decide) hJ) (cwV 0 C.1.2.2.2.2 gX5_leastSupply_X2_hourOfDay rfl rfl rfl (by decide +kernel) ⟨Nat.le_of_ble_eq_true rfl, Nat.le_of_ble_eq_true rfl⟩) rfl rfl rfl rfl (Nat.le_of_ble_eq_true rfl) dX5_leastSupply_29 (fun r4 τ4 hJ => ?_)
    refine V_istore_n (lv' := [(2, .int r4), (0, .ref (ad (0, 0, 0))), (1, .int x1)]) C dX5_leastSupply_32 (by decide) rfl ?_
    refine V_iconst (v := 0) C dX5_leastSupply_33 ci_0 ?_
    refine V_istore_n (lv' := [(3, .int 0), (2, .int r4), (0, .ref (ad (0, 0, 0))), (1, .int x1)]) C dX5_leastSupply_34 (by decide) rfl ?_
    refine V_sub (lv' := [(0, .ref (ad (0, 0, 0))), (1, .int x1), (2, .int r4), (3, .int 0)]) [2, 3, 1, 0] rfl ?_
    obtain ⟨I35, μ35, hI35, hst35⟩ := hJ
    have L35 : ∀ (n : Nat) (x3_5 : Int32) (τ5 : Mem), μ35 x3_5 τ5 < n → I35 x3_5 τ5 → VV p l e (headSpec wsX5_leastSupply ({ frames := 4, cells := 0, slots := 0, locals := 93 })).room s m ([.ref (ad (0, 0, 0)), .int x1] : List Value).toArray below meth c D vwCl idsX ad (ceX tc ad) A (MQ below (va_Qi (fun (r : Int32) (u : Mem) => Qr r u) (WdO D vwCl idsX ad (ceX tc ad) A) A) ([.ref (ad (0, 0, 0)), .int x1] : List Value).toArray s 0 0 A) 4 35 [(0, .ref (ad (0, 0, 0))), (1, .int x1), (2, .int r4), (3, .int x3_5)] [] τ5 := by
      intro n
      induction n with
      | zero => intro x3_5 τ5 hμ _; exact absurd hμ (Nat.not_lt_zero _)
      | succ n ihn =>
        intro x3_5 τ5 hμ35 hJ
        have ih35 := ihn
        replace hJ := hst35 x3_5 τ5 hJ
        refine V_iload_n C dX5_leastSupply_35 3 rfl ?_
        refine V_sipush (v := 200) C dX5_leastSupply_36 cs_200 ?_
        obtain ⟨hJt, hJf⟩ := hJ
        refine V_icmp_gt C (tgt := 82) dX5_leastSupply_39 rfl (fun hc6 => ?_) (fun hc6 => ?_)
        · have hJ := hJt hc6; clear hJt hJf
          refine V_bipush (v := (-105)) C dX5_leastSupply_82 cb_m105 ?_
          exact V_iret C hr hlocks dX5_leastSupply_84 hJ
        · have hJ := hJf hc6; clear hJt hJf
          refine V_aload_n C dX5_leastSupply_42 0 rfl ?_
          refine V_get (ci := 5) C okX_0_0 uX5 rfl 1 (Nat.le_of_ble_eq_true rfl) rfl rfl f16 dX5_leastSupply_43 ?_
          refine V_get (ci := 2) C (ok7 (by decide)) uX2 rfl 3 (Nat.le_of_ble_eq_true rfl) rfl rfl f125 dX5_leastSupply_46 ?_
          refine V_iload_n C dX5_leastSupply_49 2 rfl ?_
          refine V_iload_n C dX5_leastSupply_50 3 rfl ?_
          obtain ⟨hv7, hJ⟩ := hJ
          refine V_iast C (ok11 (by decide)) 0 rfl (fun _ => rfl) rfl hv7 dX5_leastSupply_51 (fun τ8 hτ8 => ?_)
          replace hJ := hJ τ8 hτ8
          refine V_aload_n C dX5_leastSupply_52 0 rfl ?_
          refine V_get (ci := 5) C okX_0_0 uX5 rfl 4 (Nat.le_of_ble_eq_true rfl) rfl rfl f30 dX5_leastSupply_53 ?_
          refine V_aload_n C dX5_leastSupply_56 0 rfl ?_
          refine V_get (ci := 5) C okX_0_0 uX5 rfl 1 (Nat.le_of_ble_eq_true rfl) rfl rfl f16 dX5_leastSupply_57 ?_
          refine V_cVv (st := []) (ci := 1) C okX_3_0 (M_X1_distribute l D tc ad A 1 (by decide) hJ) (cwV 1 C.1.2.2.2.2 gX5_leastSupply_X1_distribute rfl rfl rfl (by decide +kernel) ⟨Nat.le_of_ble_eq_true rfl, Nat.le_of_ble_eq_true rfl⟩) rfl rfl rfl rfl (Nat.le_of_ble_eq_true rfl) dX5_leastSupply_60 (fun τ9 hJ => ?_)
          refine V_aload_n C dX5_leastSupply_63 0 rfl ?_
          refine V_get (ci := 5) C okX_0_0 uX5 rfl 4 (Nat.le_of_ble_eq_true rfl) rfl rfl f30 dX5_leastSupply_64 ?_
          refine V_iload_n C dX5_leastSupply_67 1 rfl ?_
          refine V_cVi (st := []) (ci := 1) C okX_3_0 (M_X1_isContent l D tc ad A x1 hJ) (cwV 1 C.1.2.2.2.2 gX5_leastSupply_X1_isContent rfl rfl rfl (by decide +kernel) ⟨Nat.le_of_ble_eq_true rfl, Nat.le_of_ble_eq_true rfl⟩) rfl rfl rfl rfl (Nat.le_of_ble_eq_true rfl) dX5_leastSupply_68 (fun r10 τ10 hJ => ?_)
          obtain ⟨hJt, hJf⟩ := hJ
          refine V_if_eq C (tgt := 76) dX5_leastSupply_71 rfl (fun hc11 => ?_) (fun hc11 => ?_)
          · have hJ := hJt hc11; clear hJt hJf
            obtain ⟨x3_12, hx3_12⟩ : ∃ y : Int32, y = x3_5 + 1 := ⟨_, rfl⟩
            replace hJ := hJ x3_12 hx3_12
            refine V_iinc (v := x3_12) (lv' := [(3, .int x3_12), (0, .ref (ad (0, 0, 0))), (1, .int x1), (2, .int r4)]) C dX5_leastSupply_76 3 rfl (by rw [hx3_12]; exact congrArg _ ci_1) (by decide) rfl ?_
            refine V_goto C (tgt := 35) dX5_leastSupply_79 rfl ?_
            refine V_sub (lv' := [(0, .ref (ad (0, 0, 0))), (1, .int x1), (2, .int r4), (3, .int x3_12)]) [1, 2, 3, 0] rfl ?_
            exact ih35 x3_12 τ10 (Nat.lt_of_lt_of_le hJ.2 (Nat.le_of_lt_succ hμ35)) hJ.1
          · have hJ := hJf hc11; clear hJt hJf
            refine V_iload_n C dX5_leastSupply_74 3 rfl ?_
            exact V_iret C hr hlocks dX5_leastSupply_75 hJ
    exact L35 _ 0 τ4 (Nat.lt_succ_self _) hI35
  · have hJ := hJf hc2; clear hJt hJf
    refine V_bipush (v := (-101)) C dX5_leastSupply_11 cb_m101 ?_
    exact V_iret C hr hlocks dX5_leastSupply_13 hJ
set_option maxHeartbeats 4000000 in
set_option maxRecDepth 100000 in
theorem M_X5_limit (l : Launch) (D : va_G) (tc : Nat → ClassId) (ad : Oid → Nat) (A : Nat → Prop) (x1 : Int32) {σ : Mem} {Qr : Int32 → Mem → Prop} (hJ : J_X5_limit x1 σ Qr) : Met l yX5_limit wsX5_limit ({ frames := 4, cells := 0, slots := 0, locals := 93 }) (va_Pc [.ref (ad (0, 0, 0)), .int x1] (WdI D vwCl (tysX tc) idsX ad (ceX tc ad) A σ)) (va_Qi (fun (r : Int32) (u : Mem) => Qr r u) (WdO D vwCl idsX ad (ceX tc ad) A) A) 0 0 A := by
  refine V_meti (cc := cX5_limit) (nL := 2) (ret := (some .int)) (own := RX5) rfl (plainFor_of_name (by decide)) rfl rfl (Nat.le_of_ble_eq_true rfl) ?_
  intro p e s m below meth c C hr hlocks
  refine V_sub (lv' := [(0, .ref (ad (0, 0, 0))), (1, .int x1)]) [0, 1] rfl ?_
  have f10 : Cond.fieldLink RX5 10 (TX5 0).1 (TX5 0).2.1 (TX5 0).2.2.1 ∈ wsX5_limit := List.mem_of_getElem? (i := 1) rfl
  have uX5 : ∀ w ∈ u_ws RX5 TX5 6, w ∈ wsX5_limit := by decide +kernel
  have f30 : Cond.fieldLink RX5 30 (TX5 4).1 (TX5 4).2.1 (TX5 4).2.2.1 ∈ wsX5_limit := List.mem_of_getElem? (i := 2) rfl
  unfold J_X5_limit at hJ
  refine V_aload_n C dX5_limit_0 0 rfl ?_
  refine V_get (ci := 5) C okX_0_0 uX5 rfl 0 (Nat.le_of_ble_eq_true rfl) rfl rfl f10 dX5_limit_1 ?_
  refine V_iload_n C dX5_limit_4 1 rfl ?_
  refine V_cVi (st := []) (ci := 2) C (ok7 (by decide)) (M_X2_hasUser l D tc ad A 0 (by decide) x1 hJ) (cwV 1 C.1.2.2.2.2 gX5_limit_X2_hasUser rfl rfl rfl (by decide +kernel) ⟨Nat.le_of_ble_eq_true rfl, Nat.le_of_ble_eq_true rfl⟩) rfl rfl rfl rfl (Nat.le_of_ble_eq_true rfl) dX5_limit_5 (fun r1 τ1 hJ => ?_)
  obtain ⟨hJt, hJf⟩ := hJ
  refine V_if_ne C (tgt := 14) dX5_limit_8 rfl (fun hc2 => ?_) (fun hc2 => ?_)
  · have hJ := hJt hc2; clear hJt hJf
    refine V_aload_n C dX5_limit_14 0 rfl ?_
    refine V_get (ci := 5) C okX_0_0 uX5 rfl 4 (Nat.le_of_ble_eq_true rfl) rfl rfl f30 dX5_limit_15 ?_
    refine V_aload_n C dX5_limit_18 0 rfl ?_
    refine V_get (ci := 5) C okX_0_0 uX5 rfl 0 (Nat.le_of_ble_eq_true rfl) rfl rfl f10 dX5_limit_19 ?_
    refine V_cVv (st := []) (ci := 1) C okX_3_0 (M_X1_distribute l D tc ad A 0 (by decide) hJ) (cwV 1 C.1.2.2.2.2 gX5_limit_X1_distribute rfl rfl rfl (by decide +kernel) ⟨Nat.le_of_ble_eq_true rfl, Nat.le_of_ble_eq_true rfl⟩) rfl rfl rfl rfl (Nat.le_of_ble_eq_true rfl) dX5_limit_22 (fun τ3 hJ => ?_)
    refine V_aload_n C dX5_limit_25 0 rfl ?_
    refine V_get (ci := 5) C okX_0_0 uX5 rfl 4 (Nat.le_of_ble_eq_true rfl) rfl rfl f30 dX5_limit_26 ?_
    refine V_iload_n C dX5_limit_29 1 rfl ?_
    refine V_cVi (st := []) (ci := 1) C okX_3_0 (M_X1_isContent l D tc ad A x1 hJ) (cwV 1 C.1.2.2.2.2 gX5_limit_X1_isContent rfl rfl rfl (by decide +kernel) ⟨Nat.le_of_ble_eq_true rfl, Nat.le_of_ble_eq_true rfl⟩) rfl rfl rfl rfl (Nat.le_of_ble_eq_true rfl) dX5_limit_30 (fun r4 τ4 hJ => ?_)
    obtain ⟨hJt, hJf⟩ := hJ
    refine V_if_eq C (tgt := 39) dX5_limit_33 rfl (fun hc5 => ?_) (fun hc5 => ?_)
    · have hJ := hJt hc5; clear hJt hJf
      refine V_aload_n C dX5_limit_39 0 rfl ?_
      refine V_get (ci := 5) C okX_0_0 uX5 rfl 4 (Nat.le_of_ble_eq_true rfl) rfl rfl f30 dX5_limit_40 ?_
      refine V_aload_n C dX5_limit_43 0 rfl ?_
      refine V_get (ci := 5) C okX_0_0 uX5 rfl 0 (Nat.le_of_ble_eq_true rfl) rfl rfl f10 dX5_limit_44 ?_
      refine V_iload_n C dX5_limit_47 1 rfl ?_
      refine V_cVi (st := []) (ci := 1) C okX_3_0 (M_X1_ditchAgainstOneMore l D tc ad A 0 (by decide) x1 hJ) (cwV 2 C.1.2.2.2.2 gX5_limit_X1_ditchAgainstOneMore rfl rfl rfl (by decide +kernel) ⟨Nat.le_of_ble_eq_true rfl, Nat.le_of_ble_eq_true rfl⟩) rfl rfl rfl rfl (Nat.le_of_ble_eq_true rfl) dX5_limit_48 (fun r6 τ6 hJ => ?_)
      exact V_iret C hr hlocks dX5_limit_51 hJ
    · have hJ := hJf hc5; clear hJt hJf
      refine V_bipush (v := (-103)) C dX5_limit_36 cb_m103 ?_
      exact V_iret C hr hlocks dX5_limit_38 hJ
  · have hJ := hJf hc2; clear hJt hJf
    refine V_bipush (v := (-101)) C dX5_limit_11 cb_m101 ?_
    exact V_iret C hr hlocks dX5_limit_13 hJ
set_option maxHeartbeats 4000000 in
set_option maxRecDepth 100000 in
theorem M_X5_loses (l : Launch) (D : va_G) (tc : Nat → ClassId) (ad : Oid → Nat) (A : Nat → Prop) (x1 : Int32) {σ : Mem} {Qr : Int32 → Mem → Prop} (hJ : J_X5_loses x1 σ Qr) : Met l yX5_loses wsX5_loses ({ frames := 4, cells := 0, slots := 0, locals := 93 }) (va_Pc [.ref (ad (0, 0, 0)), .int x1] (WdI D vwCl (tysX tc) idsX ad (ceX tc ad) A σ)) (va_Qi (fun (r : Int32) (u : Mem) => Qr r u) (WdO D vwCl idsX ad (ceX tc ad) A) A) 0 0 A := by
  refine V_meti (cc := cX5_loses) (nL := 2) (ret := (some .int)) (own := RX5) rfl (plainFor_of_name (by decide)) rfl rfl (Nat.le_of_ble_eq_true rfl) ?_
  intro p e s m below meth c C hr hlocks
  refine V_sub (lv' := [(0, .ref (ad (0, 0, 0))), (1, .int x1)]) [0, 1] rfl ?_
  have f10 : Cond.fieldLink RX5 10 (TX5 0).1 (TX5 0).2.1 (TX5 0).2.2.1 ∈ wsX5_loses := List.mem_of_getElem? (i := 1) rfl
  have uX5 : ∀ w ∈ u_ws RX5 TX5 6, w ∈ wsX5_loses := by decide +kernel
  have f30 : Cond.fieldLink RX5 30 (TX5 4).1 (TX5 4).2.1 (TX5 4).2.2.1 ∈ wsX5_loses := List.mem_of_getElem? (i := 2) rfl
  unfold J_X5_loses at hJ
  refine V_aload_n C dX5_loses_0 0 rfl ?_
  refine V_get (ci := 5) C okX_0_0 uX5 rfl 0 (Nat.le_of_ble_eq_true rfl) rfl rfl f10 dX5_loses_1 ?_
  refine V_iload_n C dX5_loses_4 1 rfl ?_
  refine V_cVi (st := []) (ci := 2) C (ok7 (by decide)) (M_X2_hasDitch l D tc ad A 0 (by decide) x1 hJ) (cwV 1 C.1.2.2.2.2 gX5_loses_X2_hasDitch rfl rfl rfl (by decide +kernel) ⟨Nat.le_of_ble_eq_true rfl, Nat.le_of_ble_eq_true rfl⟩) rfl rfl rfl rfl (Nat.le_of_ble_eq_true rfl) dX5_loses_5 (fun r1 τ1 hJ => ?_)
  obtain ⟨hJt, hJf⟩ := hJ
  refine V_if_ne C (tgt := 14) dX5_loses_8 rfl (fun hc2 => ?_) (fun hc2 => ?_)
  · have hJ := hJt hc2; clear hJt hJf
    refine V_aload_n C dX5_loses_14 0 rfl ?_
    refine V_get (ci := 5) C okX_0_0 uX5 rfl 4 (Nat.le_of_ble_eq_true rfl) rfl rfl f30 dX5_loses_15 ?_
    refine V_aload_n C dX5_loses_18 0 rfl ?_
    refine V_get (ci := 5) C okX_0_0 uX5 rfl 0 (Nat.le_of_ble_eq_true rfl) rfl rfl f10 dX5_loses_19 ?_
    refine V_cVv (st := []) (ci := 1) C okX_3_0 (M_X1_distribute l D tc ad A 0 (by decide) hJ) (cwV 1 C.1.2.2.2.2 gX5_loses_X1_distribute rfl rfl rfl (by decide +kernel) ⟨Nat.le_of_ble_eq_true rfl, Nat.le_of_ble_eq_true rfl⟩) rfl rfl rfl rfl (Nat.le_of_ble_eq_true rfl) dX5_loses_22 (fun τ3 hJ => ?_)
    refine V_aload_n C dX5_loses_25 0 rfl ?_
    refine V_get (ci := 5) C okX_0_0 uX5 rfl 4 (Nat.le_of_ble_eq_true rfl) rfl rfl f30 dX5_loses_26 ?_
    refine V_iload_n C dX5_loses_29 1 rfl ?_
    refine V_cVi (st := []) (ci := 1) C okX_3_0 (M_X1_lostIn l D tc ad A x1 hJ) (cwV 1 C.1.2.2.2.2 gX5_loses_X1_lostIn rfl rfl rfl (by decide +kernel) ⟨Nat.le_of_ble_eq_true rfl, Nat.le_of_ble_eq_true rfl⟩) rfl rfl rfl rfl (Nat.le_of_ble_eq_true rfl) dX5_loses_30 (fun r4 τ4 hJ => ?_)
    exact V_iret C hr hlocks dX5_loses_33 hJ
  · have hJ := hJf hc2; clear hJt hJf
    refine V_bipush (v := (-101)) C dX5_loses_11 cb_m101 ?_
    exact V_iret C hr hlocks dX5_loses_13 hJ
set_option maxHeartbeats 4000000 in
set_option maxRecDepth 100000 in
theorem M_X5_missed (l : Launch) (D : va_G) (tc : Nat → ClassId) (ad : Oid → Nat) (A : Nat → Prop) (x1 : Int32) {σ : Mem} {Qr : Int32 → Mem → Prop} (hJ : J_X5_missed x1 σ Qr) : Met l yX5_missed wsX5_missed ({ frames := 1, cells := 0, slots := 0, locals := 21 }) (va_Pc [.ref (ad (0, 0, 0)), .int x1] (WdI D vwCl (tysX tc) idsX ad (ceX tc ad) A σ)) (va_Qi (fun (r : Int32) (u : Mem) => Qr r u) (WdO D vwCl idsX ad (ceX tc ad) A) A) 0 0 A := by
  refine V_meti (cc := cX5_missed) (nL := 2) (ret := (some .int)) (own := RX5) rfl (plainFor_of_name (by decide)) rfl rfl (Nat.le_of_ble_eq_true rfl) ?_
  intro p e s m below meth c C hr hlocks
  refine V_sub (lv' := [(0, .ref (ad (0, 0, 0))), (1, .int x1)]) [0, 1] rfl ?_
  have f10 : Cond.fieldLink RX5 10 (TX5 0).1 (TX5 0).2.1 (TX5 0).2.2.1 ∈ wsX5_missed := List.mem_of_getElem? (i := 1) rfl
  have uX5 : ∀ w ∈ u_ws RX5 TX5 6, w ∈ wsX5_missed := by decide +kernel
  have f92 : Cond.fieldLink RX5 92 (TX2 1).1 (TX2 1).2.1 (TX2 1).2.2.1 ∈ wsX5_missed := List.mem_of_getElem? (i := 2) rfl
  have uX2 : ∀ w ∈ u_ws RX2 TX2 10, w ∈ wsX5_missed := by decide +kernel
  have f188 : Cond.fieldLink RX5 188 (TX4 10).1 (TX4 10).2.1 (TX4 10).2.2.1 ∈ wsX5_missed := List.mem_of_getElem? (i := 3) rfl
  have uX4 : ∀ w ∈ u_ws RX4 TX4 12, w ∈ wsX5_missed := by decide +kernel
  unfold J_X5_missed at hJ
  refine V_aload_n C dX5_missed_0 0 rfl ?_
  refine V_get (ci := 5) C okX_0_0 uX5 rfl 0 (Nat.le_of_ble_eq_true rfl) rfl rfl f10 dX5_missed_1 ?_
  refine V_iload_n C dX5_missed_4 1 rfl ?_
  refine V_cVi (st := []) (ci := 2) C (ok7 (by decide)) (M_X2_hasUser l D tc ad A 0 (by decide) x1 hJ) (cwV 1 C.1.2.2.2.2 gX5_missed_X2_hasUser rfl rfl rfl (by decide +kernel) ⟨Nat.le_of_ble_eq_true rfl, Nat.le_of_ble_eq_true rfl⟩) rfl rfl rfl rfl (Nat.le_of_ble_eq_true rfl) dX5_missed_5 (fun r1 τ1 hJ => ?_)
  obtain ⟨hJt, hJf⟩ := hJ
  refine V_if_eq C (tgt := 26) dX5_missed_8 rfl (fun hc2 => ?_) (fun hc2 => ?_)
  · have hJ := hJt hc2; clear hJt hJf
    refine V_bipush (v := (-101)) C dX5_missed_26 cb_m101 ?_
    exact V_iret C hr hlocks dX5_missed_28 hJ
  · have hJ := hJf hc2; clear hJt hJf
    refine V_aload_n C dX5_missed_11 0 rfl ?_
    refine V_get (ci := 5) C okX_0_0 uX5 rfl 0 (Nat.le_of_ble_eq_true rfl) rfl rfl f10 dX5_missed_12 ?_
    refine V_get (ci := 2) C (ok7 (by decide)) uX2 rfl 1 (Nat.le_of_ble_eq_true rfl) rfl rfl f92 dX5_missed_15 ?_
    refine V_iload_n C dX5_missed_18 1 rfl ?_
    obtain ⟨hv3, hJ⟩ := hJ
    refine V_aald (o' := (14, 0, x1.toNatClampNeg)) C (ok9 (by decide)) 4 rfl rfl hv3 rfl dX5_missed_19 ?_
    refine V_get (ci := 4) C (ok14 (by decide) (vp_lt hv3)) uX4 rfl 10 (Nat.le_of_ble_eq_true rfl) rfl rfl f188 dX5_missed_20 ?_
    refine V_goto C (tgt := 28) dX5_missed_23 rfl ?_
    exact V_iret C hr hlocks dX5_missed_28 hJ
set_option maxHeartbeats 4000000 in
set_option maxRecDepth 100000 in
theorem M_X5_pond (l : Launch) (D : va_G) (tc : Nat → ClassId) (ad : Oid → Nat) (A : Nat → Prop) (x1 : Int32) {σ : Mem} {Qr : Int32 → Mem → Prop} (hJ : J_X5_pond x1 σ Qr) : Met l yX5_pond wsX5_pond ({ frames := 1, cells := 0, slots := 0, locals := 21 }) (va_Pc [.ref (ad (0, 0, 0)), .int x1] (WdI D vwCl (tysX tc) idsX ad (ceX tc ad) A σ)) (va_Qi (fun (r : Int32) (u : Mem) => Qr r u) (WdO D vwCl idsX ad (ceX tc ad) A) A) 0 0 A := by
  refine V_meti (cc := cX5_pond) (nL := 2) (ret := (some .int)) (own := RX5) rfl (plainFor_of_name (by decide)) rfl rfl (Nat.le_of_ble_eq_true rfl) ?_
  intro p e s m below meth c C hr hlocks
  refine V_sub (lv' := [(0, .ref (ad (0, 0, 0))), (1, .int x1)]) [0, 1] rfl ?_
  have f10 : Cond.fieldLink RX5 10 (TX5 0).1 (TX5 0).2.1 (TX5 0).2.2.1 ∈ wsX5_pond := List.mem_of_getElem? (i := 1) rfl
  have uX5 : ∀ w ∈ u_ws RX5 TX5 6, w ∈ wsX5_pond := by decide +kernel
  have f92 : Cond.fieldLink RX5 92 (TX2 1).1 (TX2 1).2.1 (TX2 1).2.2.1 ∈ wsX5_pond := List.mem_of_getElem? (i := 2) rfl
  have uX2 : ∀ w ∈ u_ws RX2 TX2 10, w ∈ wsX5_pond := by decide +kernel
  have f113 : Cond.fieldLink RX5 113 (TX4 7).1 (TX4 7).2.1 (TX4 7).2.2.1 ∈ wsX5_pond := List.mem_of_getElem? (i := 3) rfl
  have uX4 : ∀ w ∈ u_ws RX4 TX4 12, w ∈ wsX5_pond := by decide +kernel
  unfold J_X5_pond at hJ
  refine V_aload_n C dX5_pond_0 0 rfl ?_
  refine V_get (ci := 5) C okX_0_0 uX5 rfl 0 (Nat.le_of_ble_eq_true rfl) rfl rfl f10 dX5_pond_1 ?_
  refine V_iload_n C dX5_pond_4 1 rfl ?_
  refine V_cVi (st := []) (ci := 2) C (ok7 (by decide)) (M_X2_hasUser l D tc ad A 0 (by decide) x1 hJ) (cwV 1 C.1.2.2.2.2 gX5_pond_X2_hasUser rfl rfl rfl (by decide +kernel) ⟨Nat.le_of_ble_eq_true rfl, Nat.le_of_ble_eq_true rfl⟩) rfl rfl rfl rfl (Nat.le_of_ble_eq_true rfl) dX5_pond_5 (fun r1 τ1 hJ => ?_)
  obtain ⟨hJt, hJf⟩ := hJ
  refine V_if_eq C (tgt := 26) dX5_pond_8 rfl (fun hc2 => ?_) (fun hc2 => ?_)
  · have hJ := hJt hc2; clear hJt hJf
    refine V_bipush (v := (-101)) C dX5_pond_26 cb_m101 ?_
    exact V_iret C hr hlocks dX5_pond_28 hJ
  · have hJ := hJf hc2; clear hJt hJf
    refine V_aload_n C dX5_pond_11 0 rfl ?_
    refine V_get (ci := 5) C okX_0_0 uX5 rfl 0 (Nat.le_of_ble_eq_true rfl) rfl rfl f10 dX5_pond_12 ?_
    refine V_get (ci := 2) C (ok7 (by decide)) uX2 rfl 1 (Nat.le_of_ble_eq_true rfl) rfl rfl f92 dX5_pond_15 ?_
    refine V_iload_n C dX5_pond_18 1 rfl ?_
    obtain ⟨hv3, hJ⟩ := hJ
    refine V_aald (o' := (14, 0, x1.toNatClampNeg)) C (ok9 (by decide)) 4 rfl rfl hv3 rfl dX5_pond_19 ?_
    refine V_get (ci := 4) C (ok14 (by decide) (vp_lt hv3)) uX4 rfl 7 (Nat.le_of_ble_eq_true rfl) rfl rfl f113 dX5_pond_20 ?_
    refine V_goto C (tgt := 28) dX5_pond_23 rfl ?_
    exact V_iret C hr hlocks dX5_pond_28 hJ
set_option maxHeartbeats 4000000 in
set_option maxRecDepth 100000 in
theorem M_X5_read (l : Launch) (D : va_G) (tc : Nat → ClassId) (ad : Oid → Nat) (A : Nat → Prop) {σ : Mem} {Qr : Int32 → Mem → Prop} (hJ : J_X5_read σ Qr) : Met l yX5_read wsX5_read ({ frames := 6, cells := 0, slots := 0, locals := 131 }) (va_Pc [.ref (ad (0, 0, 0))] (WdI D vwCl (tysX tc) idsX ad (ceX tc ad) A σ)) (va_Qi (fun (r : Int32) (u : Mem) => Qr r u) (WdO D vwCl idsX ad (ceX tc ad) A) A) 0 0 A := by
  refine V_meti (cc := cX5_read) (nL := 1) (ret := (some .int)) (own := RX5) rfl (plainFor_of_name (by decide)) rfl rfl (Nat.le_of_ble_eq_true rfl) ?_
  intro p e s m below meth c C hr hlocks
  refine V_sub (lv' := [(0, .ref (ad (0, 0, 0)))]) [0] rfl ?_
  have f16 : Cond.fieldLink RX5 16 (TX5 1).1 (TX5 1).2.1 (TX5 1).2.2.1 ∈ wsX5_read := List.mem_of_getElem? (i := 1) rfl
  have uX5 : ∀ w ∈ u_ws RX5 TX5 6, w ∈ wsX5_read := by decide +kernel
  have f10 : Cond.fieldLink RX5 10 (TX5 0).1 (TX5 0).2.1 (TX5 0).2.2.1 ∈ wsX5_read := List.mem_of_getElem? (i := 2) rfl
  have f37 : Cond.fieldLink RX5 37 (TX5 5).1 (TX5 5).2.1 (TX5 5).2.2.1 ∈ wsX5_read := List.mem_of_getElem? (i := 3) rfl
  have f220 : Cond.fieldLink RX5 220 (TX3 1).1 (TX3 1).2.1 (TX3 1).2.2.1 ∈ wsX5_read := List.mem_of_getElem? (i := 4) rfl
  have uX3 : ∀ w ∈ u_ws RX3 TX3 5, w ∈ wsX5_read := by decide +kernel
  have f223 : Cond.fieldLink RX5 223 (TX3 2).1 (TX3 2).2.1 (TX3 2).2.2.1 ∈ wsX5_read := List.mem_of_getElem? (i := 5) rfl
  unfold J_X5_read at hJ
  refine V_aload_n C dX5_read_0 0 rfl ?_
  refine V_get (ci := 5) C okX_0_0 uX5 rfl 1 (Nat.le_of_ble_eq_true rfl) rfl rfl f16 dX5_read_1 ?_
  refine V_aload_n C dX5_read_4 0 rfl ?_
  refine V_get (ci := 5) C okX_0_0 uX5 rfl 0 (Nat.le_of_ble_eq_true rfl) rfl rfl f10 dX5_read_5 ?_
  refine V_cVv (st := []) (ci := 2) C (ok7 (by decide)) (M_X2_copyFrom l D tc ad A 1 (by decide) 0 (by decide) hJ) (cwV 1 C.1.2.2.2.2 gX5_read_X2_copyFrom rfl rfl rfl (by decide +kernel) ⟨Nat.le_of_ble_eq_true rfl, Nat.le_of_ble_eq_true rfl⟩) rfl rfl rfl rfl (Nat.le_of_ble_eq_true rfl) dX5_read_8 (fun τ1 hJ => ?_)
  refine V_aload_n C dX5_read_11 0 rfl ?_
  refine V_get (ci := 5) C okX_0_0 uX5 rfl 5 (Nat.le_of_ble_eq_true rfl) rfl rfl f37 dX5_read_12 ?_
  refine V_aload_n C dX5_read_15 0 rfl ?_
  refine V_get (ci := 5) C okX_0_0 uX5 rfl 1 (Nat.le_of_ble_eq_true rfl) rfl rfl f16 dX5_read_16 ?_
  refine V_cVv (st := []) (ci := 3) C okX_5_0 (M_X3_carryOut l D tc ad A 1 (by decide) hJ) (cwV 1 C.1.2.2.2.2 gX5_read_X3_carryOut rfl rfl rfl (by decide +kernel) ⟨Nat.le_of_ble_eq_true rfl, Nat.le_of_ble_eq_true rfl⟩) rfl rfl rfl rfl (Nat.le_of_ble_eq_true rfl) dX5_read_19 (fun τ2 hJ => ?_)
  refine V_aload_n C dX5_read_22 0 rfl ?_
  refine V_get (ci := 5) C okX_0_0 uX5 rfl 5 (Nat.le_of_ble_eq_true rfl) rfl rfl f37 dX5_read_23 ?_
  refine V_get (ci := 3) C okX_5_0 uX3 rfl 1 (Nat.le_of_ble_eq_true rfl) rfl rfl f220 dX5_read_26 ?_
  refine V_bipush (v := (-105)) C dX5_read_29 cb_m105 ?_
  obtain ⟨hJt, hJf⟩ := hJ
  refine V_icmp_eq C (tgt := 37) dX5_read_31 rfl (fun hc3 => ?_) (fun hc3 => ?_)
  · have hJ := hJt hc3; clear hJt hJf
    refine V_aload_n C dX5_read_37 0 rfl ?_
    refine V_get (ci := 5) C okX_0_0 uX5 rfl 0 (Nat.le_of_ble_eq_true rfl) rfl rfl f10 dX5_read_38 ?_
    refine V_aload_n C dX5_read_41 0 rfl ?_
    refine V_get (ci := 5) C okX_0_0 uX5 rfl 1 (Nat.le_of_ble_eq_true rfl) rfl rfl f16 dX5_read_42 ?_
    refine V_cVv (st := []) (ci := 2) C (ok7 (by decide)) (M_X2_copyFrom l D tc ad A 0 (by decide) 1 (by decide) hJ) (cwV 1 C.1.2.2.2.2 gX5_read_X2_copyFrom rfl rfl rfl (by decide +kernel) ⟨Nat.le_of_ble_eq_true rfl, Nat.le_of_ble_eq_true rfl⟩) rfl rfl rfl rfl (Nat.le_of_ble_eq_true rfl) dX5_read_45 (fun τ4 hJ => ?_)
    refine V_aload_n C dX5_read_48 0 rfl ?_
    refine V_get (ci := 5) C okX_0_0 uX5 rfl 5 (Nat.le_of_ble_eq_true rfl) rfl rfl f37 dX5_read_49 ?_
    refine V_get (ci := 3) C okX_5_0 uX3 rfl 2 (Nat.le_of_ble_eq_true rfl) rfl rfl f223 dX5_read_52 ?_
    exact V_iret C hr hlocks dX5_read_55 hJ
  · have hJ := hJf hc3; clear hJt hJf
    refine V_bipush (v := (-103)) C dX5_read_34 cb_m103 ?_
    exact V_iret C hr hlocks dX5_read_36 hJ
set_option maxHeartbeats 4000000 in
set_option maxRecDepth 100000 in
theorem M_X5_restore (l : Launch) (D : va_G) (tc : Nat → ClassId) (ad : Oid → Nat) (A : Nat → Prop) (x1 : Int32) {σ : Mem} {Qr : Int32 → Mem → Prop} (hJ : J_X5_restore x1 σ Qr) : Met l yX5_restore wsX5_restore ({ frames := 3, cells := 0, slots := 0, locals := 67 }) (va_Pc [.ref (ad (0, 0, 0)), .int x1] (WdI D vwCl (tysX tc) idsX ad (ceX tc ad) A σ)) (va_Qi (fun (r : Int32) (u : Mem) => Qr r u) (WdO D vwCl idsX ad (ceX tc ad) A) A) 0 0 A := by
  refine V_meti (cc := cX5_restore) (nL := 2) (ret := (some .int)) (own := RX5) rfl (plainFor_of_name (by decide)) rfl rfl (Nat.le_of_ble_eq_true rfl) ?_
  intro p e s m below meth c C hr hlocks
  refine V_sub (lv' := [(0, .ref (ad (0, 0, 0))), (1, .int x1)]) [0, 1] rfl ?_
  have f23 : Cond.fieldLink RX5 23 (TX5 3).1 (TX5 3).2.1 (TX5 3).2.2.1 ∈ wsX5_restore := List.mem_of_getElem? (i := 1) rfl
  have uX5 : ∀ w ∈ u_ws RX5 TX5 6, w ∈ wsX5_restore := by decide +kernel
  have f10 : Cond.fieldLink RX5 10 (TX5 0).1 (TX5 0).2.1 (TX5 0).2.2.1 ∈ wsX5_restore := List.mem_of_getElem? (i := 2) rfl
  have f19 : Cond.fieldLink RX5 19 (TX5 2).1 (TX5 2).2.1 (TX5 2).2.2.1 ∈ wsX5_restore := List.mem_of_getElem? (i := 3) rfl
  have f141 : Cond.fieldLink RX5 141 (TX2 9).1 (TX2 9).2.1 (TX2 9).2.2.1 ∈ wsX5_restore := List.mem_of_getElem? (i := 4) rfl
  have uX2 : ∀ w ∈ u_ws RX2 TX2 10, w ∈ wsX5_restore := by decide +kernel
  unfold J_X5_restore at hJ
  refine V_iload_n C dX5_restore_0 1 rfl ?_
  refine V_iconst (v := 0) C dX5_restore_1 ci_0 ?_
  refine V_iconst (v := 1) C dX5_restore_2 ci_1 ?_
  refine V_cSi (st := []) C (M_X5_isWithin l D tc ad A x1 0 1 hJ) (va_cwS 3 C.1.2.2.2.2 gX5_restore_X5_isWithin rfl rfl rfl (by decide +kernel) ⟨Nat.le_of_ble_eq_true rfl, Nat.le_of_ble_eq_true rfl⟩) rfl rfl (Nat.le_of_ble_eq_true rfl) dX5_restore_3 (fun r1 τ1 hJ => ?_)
  obtain ⟨hJt, hJf⟩ := hJ
  refine V_if_ne C (tgt := 12) dX5_restore_6 rfl (fun hc2 => ?_) (fun hc2 => ?_)
  · have hJ := hJt hc2; clear hJt hJf
    refine V_aload_n C dX5_restore_12 0 rfl ?_
    refine V_get (ci := 5) C okX_0_0 uX5 rfl 3 (Nat.le_of_ble_eq_true rfl) rfl rfl f23 dX5_restore_13 ?_
    refine V_iload_n C dX5_restore_16 1 rfl ?_
    obtain ⟨hv3, hJ⟩ := hJ
    refine V_zald C okX_2_0 1 rfl rfl rfl hv3 dX5_restore_17 ?_
    obtain ⟨hJt, hJf⟩ := hJ
    refine V_if_ne C (tgt := 24) dX5_restore_18 rfl (fun hc4 => ?_) (fun hc4 => ?_)
    · have hJ := hJt hc4; clear hJt hJf
      refine V_aload_n C dX5_restore_24 0 rfl ?_
      refine V_get (ci := 5) C okX_0_0 uX5 rfl 0 (Nat.le_of_ble_eq_true rfl) rfl rfl f10 dX5_restore_25 ?_
      refine V_aload_n C dX5_restore_28 0 rfl ?_
      refine V_get (ci := 5) C okX_0_0 uX5 rfl 2 (Nat.le_of_ble_eq_true rfl) rfl rfl f19 dX5_restore_29 ?_
      refine V_iload_n C dX5_restore_32 1 rfl ?_
      obtain ⟨hv5, hJ⟩ := hJ
      refine V_aald (o' := (7, (2 + x1.toNatClampNeg), 0)) C okX_1_0 5 rfl rfl hv5 rfl dX5_restore_33 ?_
      refine V_cVv (st := []) (ci := 2) C (ok7 (by decide)) (M_X2_copyFrom l D tc ad A 0 (by decide) (2 + x1.toNatClampNeg) (ok2 (vp_lt hv5)) hJ) (cwV 1 C.1.2.2.2.2 gX5_restore_X2_copyFrom rfl rfl rfl (by decide +kernel) ⟨Nat.le_of_ble_eq_true rfl, Nat.le_of_ble_eq_true rfl⟩) rfl rfl rfl rfl (Nat.le_of_ble_eq_true rfl) dX5_restore_34 (fun τ6 hJ => ?_)
      refine V_aload_n C dX5_restore_37 0 rfl ?_
      refine V_get (ci := 5) C okX_0_0 uX5 rfl 0 (Nat.le_of_ble_eq_true rfl) rfl rfl f10 dX5_restore_38 ?_
      refine V_get (ci := 2) C (ok7 (by decide)) uX2 rfl 9 (Nat.le_of_ble_eq_true rfl) rfl rfl f141 dX5_restore_41 ?_
      exact V_iret C hr hlocks dX5_restore_44 hJ
    · have hJ := hJf hc4; clear hJt hJf
      refine V_bipush (v := (-103)) C dX5_restore_21 cb_m103 ?_
      exact V_iret C hr hlocks dX5_restore_23 hJ
  · have hJ := hJf hc2; clear hJt hJf
    refine V_bipush (v := (-101)) C dX5_restore_9 cb_m101 ?_
    exact V_iret C hr hlocks dX5_restore_11 hJ
set_option maxHeartbeats 4000000 in
set_option maxRecDepth 100000 in
theorem M_X5_save (l : Launch) (D : va_G) (tc : Nat → ClassId) (ad : Oid → Nat) (A : Nat → Prop) (x1 : Int32) {σ : Mem} {Qr : Int32 → Mem → Prop} (hJ : J_X5_save x1 σ Qr) : Met l yX5_save wsX5_save ({ frames := 3, cells := 0, slots := 0, locals := 67 }) (va_Pc [.ref (ad (0, 0, 0)), .int x1] (WdI D vwCl (tysX tc) idsX ad (ceX tc ad) A σ)) (va_Qi (fun (r : Int32) (u : Mem) => Qr r u) (WdO D vwCl idsX ad (ceX tc ad) A) A) 0 0 A := by
  refine V_meti (cc := cX5_save) (nL := 2) (ret := (some .int)) (own := RX5) rfl (plainFor_of_name (by decide)) rfl rfl (Nat.le_of_ble_eq_true rfl) ?_
  intro p e s m below meth c C hr hlocks
  refine V_sub (lv' := [(0, .ref (ad (0, 0, 0))), (1, .int x1)]) [0, 1] rfl ?_
  have f19 : Cond.fieldLink RX5 19 (TX5 2).1 (TX5 2).2.1 (TX5 2).2.2.1 ∈ wsX5_save := List.mem_of_getElem? (i := 1) rfl
  have uX5 : ∀ w ∈ u_ws RX5 TX5 6, w ∈ wsX5_save := by decide +kernel
  have f10 : Cond.fieldLink RX5 10 (TX5 0).1 (TX5 0).2.1 (TX5 0).2.2.1 ∈ wsX5_save := List.mem_of_getElem? (i := 2) rfl
  have f23 : Cond.fieldLink RX5 23 (TX5 3).1 (TX5 3).2.1 (TX5 3).2.2.1 ∈ wsX5_save := List.mem_of_getElem? (i := 3) rfl
  have f141 : Cond.fieldLink RX5 141 (TX2 9).1 (TX2 9).2.1 (TX2 9).2.2.1 ∈ wsX5_save := List.mem_of_getElem? (i := 4) rfl
  have uX2 : ∀ w ∈ u_ws RX2 TX2 10, w ∈ wsX5_save := by decide +kernel
  unfold J_X5_save at hJ
  refine V_iload_n C dX5_save_0 1 rfl ?_
  refine V_iconst (v := 0) C dX5_save_1 ci_0 ?_
  refine V_iconst (v := 1) C dX5_save_2 ci_1 ?_
  refine V_cSi (st := []) C (M_X5_isWithin l D tc ad A x1 0 1 hJ) (va_cwS 3 C.1.2.2.2.2 gX5_save_X5_isWithin rfl rfl rfl (by decide +kernel) ⟨Nat.le_of_ble_eq_true rfl, Nat.le_of_ble_eq_true rfl⟩) rfl rfl (Nat.le_of_ble_eq_true rfl) dX5_save_3 (fun r1 τ1 hJ => ?_)
  obtain ⟨hJt, hJf⟩ := hJ
  refine V_if_ne C (tgt := 12) dX5_save_6 rfl (fun hc2 => ?_) (fun hc2 => ?_)
  · have hJ := hJt hc2; clear hJt hJf
    refine V_aload_n C dX5_save_12 0 rfl ?_
    refine V_get (ci := 5) C okX_0_0 uX5 rfl 2 (Nat.le_of_ble_eq_true rfl) rfl rfl f19 dX5_save_13 ?_
    refine V_iload_n C dX5_save_16 1 rfl ?_
    obtain ⟨hv3, hJ⟩ := hJ
    refine V_aald (o' := (7, (2 + x1.toNatClampNeg), 0)) C okX_1_0 5 rfl rfl hv3 rfl dX5_save_17 ?_
    refine V_aload_n C dX5_save_18 0 rfl ?_
    refine V_get (ci := 5) C okX_0_0 uX5 rfl 0 (Nat.le_of_ble_eq_true rfl) rfl rfl f10 dX5_save_19 ?_
    refine V_cVv (st := []) (ci := 2) C (ok7 (ok2 (vp_lt hv3))) (M_X2_copyFrom l D tc ad A (2 + x1.toNatClampNeg) (ok2 (vp_lt hv3)) 0 (by decide) hJ) (cwV 1 C.1.2.2.2.2 gX5_save_X2_copyFrom rfl rfl rfl (by decide +kernel) ⟨Nat.le_of_ble_eq_true rfl, Nat.le_of_ble_eq_true rfl⟩) rfl rfl rfl rfl (Nat.le_of_ble_eq_true rfl) dX5_save_22 (fun τ4 hJ => ?_)
    refine V_aload_n C dX5_save_25 0 rfl ?_
    refine V_get (ci := 5) C okX_0_0 uX5 rfl 3 (Nat.le_of_ble_eq_true rfl) rfl rfl f23 dX5_save_26 ?_
    refine V_iload_n C dX5_save_29 1 rfl ?_
    refine V_iconst (v := 1) C dX5_save_30 ci_1 ?_
    obtain ⟨hv5, hJ⟩ := hJ
    refine V_zast C okX_2_0 1 rfl (fun _ => rfl) rfl hv5 dX5_save_31 (fun τ6 hτ6 => ?_)
    replace hJ := hJ τ6 hτ6
    refine V_aload_n C dX5_save_32 0 rfl ?_
    refine V_get (ci := 5) C okX_0_0 uX5 rfl 0 (Nat.le_of_ble_eq_true rfl) rfl rfl f10 dX5_save_33 ?_
    refine V_get (ci := 2) C (ok7 (by decide)) uX2 rfl 9 (Nat.le_of_ble_eq_true rfl) rfl rfl f141 dX5_save_36 ?_
    exact V_iret C hr hlocks dX5_save_39 hJ
  · have hJ := hJf hc2; clear hJt hJf
    refine V_bipush (v := (-101)) C dX5_save_9 cb_m101 ?_
    exact V_iret C hr hlocks dX5_save_11 hJ
set_option maxHeartbeats 4000000 in
set_option maxRecDepth 100000 in
theorem M_X5_setDitch (l : Launch) (D : va_G) (tc : Nat → ClassId) (ad : Oid → Nat) (A : Nat → Prop) (x1 : Int32) (x2 : Int32) (x3 : Int32) {σ : Mem} {Qr : Int32 → Mem → Prop} (hJ : J_X5_setDitch x1 x2 x3 σ Qr) : Met l yX5_setDitch wsX5_setDitch ({ frames := 2, cells := 0, slots := 0, locals := 43 }) (va_Pc [.ref (ad (0, 0, 0)), .int x1, .int x2, .int x3] (WdI D vwCl (tysX tc) idsX ad (ceX tc ad) A σ)) (va_Qi (fun (r : Int32) (u : Mem) => Qr r u) (WdO D vwCl idsX ad (ceX tc ad) A) A) 0 0 A := by
  refine V_meti (cc := cX5_setDitch) (nL := 6) (ret := (some .int)) (own := RX5) rfl (plainFor_of_name (by decide)) rfl rfl (Nat.le_of_ble_eq_true rfl) ?_
  intro p e s m below meth c C hr hlocks
  refine V_sub (lv' := [(0, .ref (ad (0, 0, 0))), (1, .int x1), (2, .int x2), (3, .int x3)]) [0, 1, 2, 3] rfl ?_
  have f10 : Cond.fieldLink RX5 10 (TX5 0).1 (TX5 0).2.1 (TX5 0).2.2.1 ∈ wsX5_setDitch := List.mem_of_getElem? (i := 1) rfl
  have uX5 : ∀ w ∈ u_ws RX5 TX5 6, w ∈ wsX5_setDitch := by decide +kernel
  have f61 : Cond.fieldLink RX5 61 (TX2 0).1 (TX2 0).2.1 (TX2 0).2.2.1 ∈ wsX5_setDitch := List.mem_of_getElem? (i := 2) rfl
  have uX2 : ∀ w ∈ u_ws RX2 TX2 10, w ∈ wsX5_setDitch := by decide +kernel
  have f65 : Cond.fieldLink RX5 65 (TX0 1).1 (TX0 1).2.1 (TX0 1).2.2.1 ∈ wsX5_setDitch := List.mem_of_getElem? (i := 3) rfl
  have uX0 : ∀ w ∈ u_ws RX0 TX0 3, w ∈ wsX5_setDitch := by decide +kernel
  have f70 : Cond.fieldLink RX5 70 (TX0 2).1 (TX0 2).2.1 (TX0 2).2.2.1 ∈ wsX5_setDitch := List.mem_of_getElem? (i := 4) rfl
  unfold J_X5_setDitch at hJ
  refine V_aload_n C dX5_setDitch_0 0 rfl ?_
  refine V_get (ci := 5) C okX_0_0 uX5 rfl 0 (Nat.le_of_ble_eq_true rfl) rfl rfl f10 dX5_setDitch_1 ?_
  refine V_iload_n C dX5_setDitch_4 1 rfl ?_
  refine V_cVi (st := []) (ci := 2) C (ok7 (by decide)) (M_X2_hasDitch l D tc ad A 0 (by decide) x1 hJ) (cwV 1 C.1.2.2.2.2 gX5_setDitch_X2_hasDitch rfl rfl rfl (by decide +kernel) ⟨Nat.le_of_ble_eq_true rfl, Nat.le_of_ble_eq_true rfl⟩) rfl rfl rfl rfl (Nat.le_of_ble_eq_true rfl) dX5_setDitch_5 (fun r1 τ1 hJ => ?_)
  obtain ⟨hJt, hJf⟩ := hJ
  refine V_if_ne C (tgt := 14) dX5_setDitch_8 rfl (fun hc2 => ?_) (fun hc2 => ?_)
  · have hJ := hJt hc2; clear hJt hJf
    refine V_iload_n C dX5_setDitch_14 2 rfl ?_
    refine V_iload_n C dX5_setDitch_15 3 rfl ?_
    refine V_cSi (st := []) C (M_X5_areGateAndLoss l D tc ad A x2 x3 hJ) (va_cwS 2 C.1.2.2.2.2 gX5_setDitch_X5_areGateAndLoss rfl rfl rfl (by decide +kernel) ⟨Nat.le_of_ble_eq_true rfl, Nat.le_of_ble_eq_true rfl⟩) rfl rfl (Nat.le_of_ble_eq_true rfl) dX5_setDitch_16 (fun r3 τ3 hJ => ?_)
    obtain ⟨hJt, hJf⟩ := hJ
    refine V_if_ne C (tgt := 25) dX5_setDitch_19 rfl (fun hc4 => ?_) (fun hc4 => ?_)
    · have hJ := hJt hc4; clear hJt hJf
      refine V_aload_n C dX5_setDitch_25 0 rfl ?_
      refine V_get (ci := 5) C okX_0_0 uX5 rfl 0 (Nat.le_of_ble_eq_true rfl) rfl rfl f10 dX5_setDitch_26 ?_
      refine V_get (ci := 2) C (ok7 (by decide)) uX2 rfl 0 (Nat.le_of_ble_eq_true rfl) rfl rfl f61 dX5_setDitch_29 ?_
      refine V_iload_n C dX5_setDitch_32 1 rfl ?_
      obtain ⟨hv5, hJ⟩ := hJ
      refine V_aald (o' := (13, 0, x1.toNatClampNeg)) C (ok8 (by decide)) 3 rfl rfl hv5 rfl dX5_setDitch_33 ?_
      refine V_astore (lv' := [(4, .ref (ad (13, 0, x1.toNatClampNeg))), (0, .ref (ad (0, 0, 0))), (1, .int x1), (2, .int x2), (3, .int x3)]) C dX5_setDitch_34 (by decide) rfl ?_
      refine V_aload C dX5_setDitch_36 0 rfl ?_
      refine V_get (ci := 0) C (ok13 (by decide) (vp_lt hv5)) uX0 rfl 1 (Nat.le_of_ble_eq_true rfl) rfl rfl f65 dX5_setDitch_38 ?_
      refine V_topi (fun x5_6 hx5_6 => ?_)
      replace hJ := hJ x5_6 hx5_6
      refine V_istore (lv' := [(5, .int x5_6), (4, .ref (ad (13, 0, x1.toNatClampNeg))), (0, .ref (ad (0, 0, 0))), (1, .int x1), (2, .int x2), (3, .int x3)]) C dX5_setDitch_41 (by decide) rfl ?_
      refine V_aload C dX5_setDitch_43 1 rfl ?_
      refine V_iload_n C dX5_setDitch_45 4 rfl ?_
      refine V_put (ci := 0) C (ok13 (by decide) (vp_lt hv5)) uX0 tyX0 tyX0_ok nmX0 rfl 1 (Nat.le_of_ble_eq_true rfl) rfl rfl f65 rfl (ty := .int) (by decide +kernel) rfl rfl (Nat.le_of_ble_eq_true rfl) dX5_setDitch_46 (fun τ7 hτ7 => ?_)
      replace hJ := hJ τ7 hτ7
      refine V_aload C dX5_setDitch_49 1 rfl ?_
      refine V_iload_n C dX5_setDitch_51 5 rfl ?_
      refine V_put (ci := 0) C (ok13 (by decide) (vp_lt hv5)) uX0 tyX0 tyX0_ok nmX0 rfl 2 (Nat.le_of_ble_eq_true rfl) rfl rfl f70 rfl (ty := .int) (by decide +kernel) rfl rfl (Nat.le_of_ble_eq_true rfl) dX5_setDitch_52 (fun τ8 hτ8 => ?_)
      replace hJ := hJ τ8 hτ8
      refine V_iload C dX5_setDitch_55 0 rfl ?_
      exact V_iret C hr hlocks dX5_setDitch_57 hJ
    · have hJ := hJf hc4; clear hJt hJf
      refine V_bipush (v := (-102)) C dX5_setDitch_22 cb_m102 ?_
      exact V_iret C hr hlocks dX5_setDitch_24 hJ
  · have hJ := hJf hc2; clear hJt hJf
    refine V_bipush (v := (-101)) C dX5_setDitch_11 cb_m101 ?_
    exact V_iret C hr hlocks dX5_setDitch_13 hJ
set_option maxHeartbeats 4000000 in
set_option maxRecDepth 100000 in
theorem M_X5_setField (l : Launch) (D : va_G) (tc : Nat → ClassId) (ad : Oid → Nat) (A : Nat → Prop) (x1 : Int32) (x2 : Int32) (x3 : Int32) (x4 : Int32) {σ : Mem} {Qr : Int32 → Mem → Prop} (hJ : J_X5_setField x1 x2 x3 x4 σ Qr) : Met l yX5_setField wsX5_setField ({ frames := 2, cells := 0, slots := 0, locals := 43 }) (va_Pc [.ref (ad (0, 0, 0)), .int x1, .int x2, .int x3, .int x4] (WdI D vwCl (tysX tc) idsX ad (ceX tc ad) A σ)) (va_Qi (fun (r : Int32) (u : Mem) => Qr r u) (WdO D vwCl idsX ad (ceX tc ad) A) A) 0 0 A := by
  refine V_meti (cc := cX5_setField) (nL := 7) (ret := (some .int)) (own := RX5) rfl (plainFor_of_name (by decide)) rfl rfl (Nat.le_of_ble_eq_true rfl) ?_
  intro p e s m below meth c C hr hlocks
  refine V_sub (lv' := [(0, .ref (ad (0, 0, 0))), (1, .int x1), (2, .int x2), (3, .int x3), (4, .int x4)]) [0, 1, 2, 3, 4] rfl ?_
  have f10 : Cond.fieldLink RX5 10 (TX5 0).1 (TX5 0).2.1 (TX5 0).2.2.1 ∈ wsX5_setField := List.mem_of_getElem? (i := 1) rfl
  have uX5 : ∀ w ∈ u_ws RX5 TX5 6, w ∈ wsX5_setField := by decide +kernel
  have f92 : Cond.fieldLink RX5 92 (TX2 1).1 (TX2 1).2.1 (TX2 1).2.2.1 ∈ wsX5_setField := List.mem_of_getElem? (i := 2) rfl
  have uX2 : ∀ w ∈ u_ws RX2 TX2 10, w ∈ wsX5_setField := by decide +kernel
  have f96 : Cond.fieldLink RX5 96 (TX4 3).1 (TX4 3).2.1 (TX4 3).2.2.1 ∈ wsX5_setField := List.mem_of_getElem? (i := 3) rfl
  have uX4 : ∀ w ∈ u_ws RX4 TX4 12, w ∈ wsX5_setField := by decide +kernel
  have f101 : Cond.fieldLink RX5 101 (TX4 4).1 (TX4 4).2.1 (TX4 4).2.2.1 ∈ wsX5_setField := List.mem_of_getElem? (i := 4) rfl
  have f104 : Cond.fieldLink RX5 104 (TX4 5).1 (TX4 5).2.1 (TX4 5).2.2.1 ∈ wsX5_setField := List.mem_of_getElem? (i := 5) rfl
  unfold J_X5_setField at hJ
  refine V_aload_n C dX5_setField_0 0 rfl ?_
  refine V_get (ci := 5) C okX_0_0 uX5 rfl 0 (Nat.le_of_ble_eq_true rfl) rfl rfl f10 dX5_setField_1 ?_
  refine V_iload_n C dX5_setField_4 1 rfl ?_
  refine V_cVi (st := []) (ci := 2) C (ok7 (by decide)) (M_X2_hasUser l D tc ad A 0 (by decide) x1 hJ) (cwV 1 C.1.2.2.2.2 gX5_setField_X2_hasUser rfl rfl rfl (by decide +kernel) ⟨Nat.le_of_ble_eq_true rfl, Nat.le_of_ble_eq_true rfl⟩) rfl rfl rfl rfl (Nat.le_of_ble_eq_true rfl) dX5_setField_5 (fun r1 τ1 hJ => ?_)
  obtain ⟨hJt, hJf⟩ := hJ
  refine V_if_ne C (tgt := 14) dX5_setField_8 rfl (fun hc2 => ?_) (fun hc2 => ?_)
  · have hJ := hJt hc2; clear hJt hJf
    refine V_iload_n C dX5_setField_14 2 rfl ?_
    refine V_iconst (v := 0) C dX5_setField_15 ci_0 ?_
    refine V_bipush (v := 60) C dX5_setField_16 cb_60 ?_
    refine V_cSi (st := []) C (M_X5_isWithin l D tc ad A x2 0 60 hJ) (va_cwS 3 C.1.2.2.2.2 gX5_setField_X5_isWithin rfl rfl rfl (by decide +kernel) ⟨Nat.le_of_ble_eq_true rfl, Nat.le_of_ble_eq_true rfl⟩) rfl rfl (Nat.le_of_ble_eq_true rfl) dX5_setField_18 (fun r3 τ3 hJ => ?_)
    obtain ⟨hJt, hJf⟩ := hJ
    refine V_if_eq C (tgt := 33) dX5_setField_21 rfl (fun hc4 => ?_) (fun hc4 => ?_)
    · have hJ := hJt hc4; clear hJt hJf
      refine V_bipush (v := (-102)) C dX5_setField_33 cb_m102 ?_
      exact V_iret C hr hlocks dX5_setField_35 hJ
    · have hJ := hJf hc4; clear hJt hJf
      refine V_iload_n C dX5_setField_24 3 rfl ?_
      refine V_iload C dX5_setField_25 4 rfl ?_
      refine V_cSi (st := []) C (M_X5_areHours l D tc ad A x3 x4 hJ) (va_cwS 2 C.1.2.2.2.2 gX5_setField_X5_areHours rfl rfl rfl (by decide +kernel) ⟨Nat.le_of_ble_eq_true rfl, Nat.le_of_ble_eq_true rfl⟩) rfl rfl (Nat.le_of_ble_eq_true rfl) dX5_setField_27 (fun r5 τ5 hJ => ?_)
      obtain ⟨hJt, hJf⟩ := hJ
      refine V_if_ne C (tgt := 36) dX5_setField_30 rfl (fun hc6 => ?_) (fun hc6 => ?_)
      · have hJ := hJt hc6; clear hJt hJf
        refine V_aload_n C dX5_setField_36 0 rfl ?_
        refine V_get (ci := 5) C okX_0_0 uX5 rfl 0 (Nat.le_of_ble_eq_true rfl) rfl rfl f10 dX5_setField_37 ?_
        refine V_get (ci := 2) C (ok7 (by decide)) uX2 rfl 1 (Nat.le_of_ble_eq_true rfl) rfl rfl f92 dX5_setField_40 ?_
        refine V_iload_n C dX5_setField_43 1 rfl ?_
        obtain ⟨hv7, hJ⟩ := hJ
        refine V_aald (o' := (14, 0, x1.toNatClampNeg)) C (ok9 (by decide)) 4 rfl rfl hv7 rfl dX5_setField_44 ?_
        refine V_astore (lv' := [(5, .ref (ad (14, 0, x1.toNatClampNeg))), (0, .ref (ad (0, 0, 0))), (1, .int x1), (2, .int x2), (3, .int x3), (4, .int x4)]) C dX5_setField_45 (by decide) rfl ?_
        refine V_aload C dX5_setField_47 0 rfl ?_
        refine V_get (ci := 4) C (ok14 (by decide) (vp_lt hv7)) uX4 rfl 3 (Nat.le_of_ble_eq_true rfl) rfl rfl f96 dX5_setField_49 ?_
        refine V_topi (fun x6_8 hx6_8 => ?_)
        replace hJ := hJ x6_8 hx6_8
        refine V_istore (lv' := [(6, .int x6_8), (5, .ref (ad (14, 0, x1.toNatClampNeg))), (0, .ref (ad (0, 0, 0))), (1, .int x1), (2, .int x2), (3, .int x3), (4, .int x4)]) C dX5_setField_52 (by decide) rfl ?_
        refine V_aload C dX5_setField_54 1 rfl ?_
        refine V_iload_n C dX5_setField_56 4 rfl ?_
        refine V_put (ci := 4) C (ok14 (by decide) (vp_lt hv7)) uX4 tyX4 tyX4_ok nmX4 rfl 3 (Nat.le_of_ble_eq_true rfl) rfl rfl f96 rfl (ty := .int) (by decide +kernel) rfl rfl (Nat.le_of_ble_eq_true rfl) dX5_setField_57 (fun τ9 hτ9 => ?_)
        replace hJ := hJ τ9 hτ9
        refine V_aload C dX5_setField_60 1 rfl ?_
        refine V_iload_n C dX5_setField_62 5 rfl ?_
        refine V_put (ci := 4) C (ok14 (by decide) (vp_lt hv7)) uX4 tyX4 tyX4_ok nmX4 rfl 4 (Nat.le_of_ble_eq_true rfl) rfl rfl f101 rfl (ty := .int) (by decide +kernel) rfl rfl (Nat.le_of_ble_eq_true rfl) dX5_setField_63 (fun τ10 hτ10 => ?_)
        replace hJ := hJ τ10 hτ10
        refine V_aload C dX5_setField_66 1 rfl ?_
        refine V_iload C dX5_setField_68 6 rfl ?_
        refine V_put (ci := 4) C (ok14 (by decide) (vp_lt hv7)) uX4 tyX4 tyX4_ok nmX4 rfl 5 (Nat.le_of_ble_eq_true rfl) rfl rfl f104 rfl (ty := .int) (by decide +kernel) rfl rfl (Nat.le_of_ble_eq_true rfl) dX5_setField_70 (fun τ11 hτ11 => ?_)
        replace hJ := hJ τ11 hτ11
        refine V_iload C dX5_setField_73 0 rfl ?_
        exact V_iret C hr hlocks dX5_setField_75 hJ
      · have hJ := hJf hc6; clear hJt hJf
        refine V_bipush (v := (-102)) C dX5_setField_33 cb_m102 ?_
        exact V_iret C hr hlocks dX5_setField_35 hJ
  · have hJ := hJf hc2; clear hJt hJf
    refine V_bipush (v := (-101)) C dX5_setField_11 cb_m101 ?_
    exact V_iret C hr hlocks dX5_setField_13 hJ
set_option maxHeartbeats 4000000 in
set_option maxRecDepth 100000 in
theorem M_X5_setFutile (l : Launch) (D : va_G) (tc : Nat → ClassId) (ad : Oid → Nat) (A : Nat → Prop) (x1 : Int32) {σ : Mem} {Qr : Int32 → Mem → Prop} (hJ : J_X5_setFutile x1 σ Qr) : Met l yX5_setFutile wsX5_setFutile ({ frames := 1, cells := 0, slots := 0, locals := 22 }) (va_Pc [.ref (ad (0, 0, 0)), .int x1] (WdI D vwCl (tysX tc) idsX ad (ceX tc ad) A σ)) (va_Qi (fun (r : Int32) (u : Mem) => Qr r u) (WdO D vwCl idsX ad (ceX tc ad) A) A) 0 0 A := by
  refine V_meti (cc := cX5_setFutile) (nL := 3) (ret := (some .int)) (own := RX5) rfl (plainFor_of_name (by decide)) rfl rfl (Nat.le_of_ble_eq_true rfl) ?_
  intro p e s m below meth c C hr hlocks
  refine V_sub (lv' := [(0, .ref (ad (0, 0, 0))), (1, .int x1)]) [0, 1] rfl ?_
  have f10 : Cond.fieldLink RX5 10 (TX5 0).1 (TX5 0).2.1 (TX5 0).2.2.1 ∈ wsX5_setFutile := List.mem_of_getElem? (i := 1) rfl
  have uX5 : ∀ w ∈ u_ws RX5 TX5 6, w ∈ wsX5_setFutile := by decide +kernel
  have f135 : Cond.fieldLink RX5 135 (TX2 8).1 (TX2 8).2.1 (TX2 8).2.2.1 ∈ wsX5_setFutile := List.mem_of_getElem? (i := 2) rfl
  have uX2 : ∀ w ∈ u_ws RX2 TX2 10, w ∈ wsX5_setFutile := by decide +kernel
  unfold J_X5_setFutile at hJ
  refine V_iload_n C dX5_setFutile_0 1 rfl ?_
  refine V_iconst (v := 0) C dX5_setFutile_1 ci_0 ?_
  refine V_bipush (v := 100) C dX5_setFutile_2 cb_100 ?_
  refine V_cSi (st := []) C (M_X5_isWithin l D tc ad A x1 0 100 hJ) (va_cwS 3 C.1.2.2.2.2 gX5_setFutile_X5_isWithin rfl rfl rfl (by decide +kernel) ⟨Nat.le_of_ble_eq_true rfl, Nat.le_of_ble_eq_true rfl⟩) rfl rfl (Nat.le_of_ble_eq_true rfl) dX5_setFutile_4 (fun r1 τ1 hJ => ?_)
  obtain ⟨hJt, hJf⟩ := hJ
  refine V_if_ne C (tgt := 13) dX5_setFutile_7 rfl (fun hc2 => ?_) (fun hc2 => ?_)
  · have hJ := hJt hc2; clear hJt hJf
    refine V_aload_n C dX5_setFutile_13 0 rfl ?_
    refine V_get (ci := 5) C okX_0_0 uX5 rfl 0 (Nat.le_of_ble_eq_true rfl) rfl rfl f10 dX5_setFutile_14 ?_
    refine V_get (ci := 2) C (ok7 (by decide)) uX2 rfl 8 (Nat.le_of_ble_eq_true rfl) rfl rfl f135 dX5_setFutile_17 ?_
    refine V_topi (fun x2_3 hx2_3 => ?_)
    replace hJ := hJ x2_3 hx2_3
    refine V_istore_n (lv' := [(2, .int x2_3), (0, .ref (ad (0, 0, 0))), (1, .int x1)]) C dX5_setFutile_20 (by decide) rfl ?_
    refine V_aload_n C dX5_setFutile_21 1 rfl ?_
    refine V_get (ci := 5) C okX_0_0 uX5 rfl 0 (Nat.le_of_ble_eq_true rfl) rfl rfl f10 dX5_setFutile_22 ?_
    refine V_iload_n C dX5_setFutile_25 2 rfl ?_
    refine V_put (ci := 2) C (ok7 (by decide)) uX2 tyX2 tyX2_ok nmX2 rfl 8 (Nat.le_of_ble_eq_true rfl) rfl rfl f135 rfl (ty := .int) (by decide +kernel) rfl rfl (Nat.le_of_ble_eq_true rfl) dX5_setFutile_26 (fun τ4 hτ4 => ?_)
    replace hJ := hJ τ4 hτ4
    refine V_iload_n C dX5_setFutile_29 0 rfl ?_
    exact V_iret C hr hlocks dX5_setFutile_30 hJ
  · have hJ := hJf hc2; clear hJt hJf
    refine V_bipush (v := (-102)) C dX5_setFutile_10 cb_m102 ?_
    exact V_iret C hr hlocks dX5_setFutile_12 hJ
set_option maxHeartbeats 4000000 in
set_option maxRecDepth 100000 in
theorem M_X5_setPond (l : Launch) (D : va_G) (tc : Nat → ClassId) (ad : Oid → Nat) (A : Nat → Prop) (x1 : Int32) (x2 : Int32) (x3 : Int32) {σ : Mem} {Qr : Int32 → Mem → Prop} (hJ : J_X5_setPond x1 x2 x3 σ Qr) : Met l yX5_setPond wsX5_setPond ({ frames := 1, cells := 0, slots := 0, locals := 22 }) (va_Pc [.ref (ad (0, 0, 0)), .int x1, .int x2, .int x3] (WdI D vwCl (tysX tc) idsX ad (ceX tc ad) A σ)) (va_Qi (fun (r : Int32) (u : Mem) => Qr r u) (WdO D vwCl idsX ad (ceX tc ad) A) A) 0 0 A := by
  refine V_meti (cc := cX5_setPond) (nL := 5) (ret := (some .int)) (own := RX5) rfl (plainFor_of_name (by decide)) rfl rfl (Nat.le_of_ble_eq_true rfl) ?_
  intro p e s m below meth c C hr hlocks
  refine V_sub (lv' := [(0, .ref (ad (0, 0, 0))), (1, .int x1), (2, .int x2), (3, .int x3)]) [0, 1, 2, 3] rfl ?_
  have f10 : Cond.fieldLink RX5 10 (TX5 0).1 (TX5 0).2.1 (TX5 0).2.2.1 ∈ wsX5_setPond := List.mem_of_getElem? (i := 1) rfl
  have uX5 : ∀ w ∈ u_ws RX5 TX5 6, w ∈ wsX5_setPond := by decide +kernel
  have f92 : Cond.fieldLink RX5 92 (TX2 1).1 (TX2 1).2.1 (TX2 1).2.2.1 ∈ wsX5_setPond := List.mem_of_getElem? (i := 2) rfl
  have uX2 : ∀ w ∈ u_ws RX2 TX2 10, w ∈ wsX5_setPond := by decide +kernel
  have f107 : Cond.fieldLink RX5 107 (TX4 6).1 (TX4 6).2.1 (TX4 6).2.2.1 ∈ wsX5_setPond := List.mem_of_getElem? (i := 3) rfl
  have uX4 : ∀ w ∈ u_ws RX4 TX4 12, w ∈ wsX5_setPond := by decide +kernel
  have f110 : Cond.fieldLink RX5 110 (TX4 8).1 (TX4 8).2.1 (TX4 8).2.2.1 ∈ wsX5_setPond := List.mem_of_getElem? (i := 4) rfl
  have f113 : Cond.fieldLink RX5 113 (TX4 7).1 (TX4 7).2.1 (TX4 7).2.2.1 ∈ wsX5_setPond := List.mem_of_getElem? (i := 5) rfl
  unfold J_X5_setPond at hJ
  refine V_aload_n C dX5_setPond_0 0 rfl ?_
  refine V_get (ci := 5) C okX_0_0 uX5 rfl 0 (Nat.le_of_ble_eq_true rfl) rfl rfl f10 dX5_setPond_1 ?_
  refine V_iload_n C dX5_setPond_4 1 rfl ?_
  refine V_cVi (st := []) (ci := 2) C (ok7 (by decide)) (M_X2_hasUser l D tc ad A 0 (by decide) x1 hJ) (cwV 1 C.1.2.2.2.2 gX5_setPond_X2_hasUser rfl rfl rfl (by decide +kernel) ⟨Nat.le_of_ble_eq_true rfl, Nat.le_of_ble_eq_true rfl⟩) rfl rfl rfl rfl (Nat.le_of_ble_eq_true rfl) dX5_setPond_5 (fun r1 τ1 hJ => ?_)
  obtain ⟨hJt, hJf⟩ := hJ
  refine V_if_ne C (tgt := 14) dX5_setPond_8 rfl (fun hc2 => ?_) (fun hc2 => ?_)
  · have hJ := hJt hc2; clear hJt hJf
    refine V_iload_n C dX5_setPond_14 2 rfl ?_
    refine V_iconst (v := 0) C dX5_setPond_15 ci_0 ?_
    refine V_sipush (v := 500) C dX5_setPond_16 cs_500 ?_
    refine V_cSi (st := []) C (M_X5_isWithin l D tc ad A x2 0 500 hJ) (va_cwS 3 C.1.2.2.2.2 gX5_setPond_X5_isWithin rfl rfl rfl (by decide +kernel) ⟨Nat.le_of_ble_eq_true rfl, Nat.le_of_ble_eq_true rfl⟩) rfl rfl (Nat.le_of_ble_eq_true rfl) dX5_setPond_19 (fun r3 τ3 hJ => ?_)
    obtain ⟨hJt, hJf⟩ := hJ
    refine V_if_eq C (tgt := 35) dX5_setPond_22 rfl (fun hc4 => ?_) (fun hc4 => ?_)
    · have hJ := hJt hc4; clear hJt hJf
      refine V_bipush (v := (-102)) C dX5_setPond_35 cb_m102 ?_
      exact V_iret C hr hlocks dX5_setPond_37 hJ
    · have hJ := hJf hc4; clear hJt hJf
      refine V_iload_n C dX5_setPond_25 3 rfl ?_
      refine V_iconst (v := 0) C dX5_setPond_26 ci_0 ?_
      refine V_bipush (v := 20) C dX5_setPond_27 cb_20 ?_
      refine V_cSi (st := []) C (M_X5_isWithin l D tc ad A x3 0 20 hJ) (va_cwS 3 C.1.2.2.2.2 gX5_setPond_X5_isWithin rfl rfl rfl (by decide +kernel) ⟨Nat.le_of_ble_eq_true rfl, Nat.le_of_ble_eq_true rfl⟩) rfl rfl (Nat.le_of_ble_eq_true rfl) dX5_setPond_29 (fun r5 τ5 hJ => ?_)
      obtain ⟨hJt, hJf⟩ := hJ
      refine V_if_ne C (tgt := 38) dX5_setPond_32 rfl (fun hc6 => ?_) (fun hc6 => ?_)
      · have hJ := hJt hc6; clear hJt hJf
        refine V_aload_n C dX5_setPond_38 0 rfl ?_
        refine V_get (ci := 5) C okX_0_0 uX5 rfl 0 (Nat.le_of_ble_eq_true rfl) rfl rfl f10 dX5_setPond_39 ?_
        refine V_get (ci := 2) C (ok7 (by decide)) uX2 rfl 1 (Nat.le_of_ble_eq_true rfl) rfl rfl f92 dX5_setPond_42 ?_
        refine V_iload_n C dX5_setPond_45 1 rfl ?_
        obtain ⟨hv7, hJ⟩ := hJ
        refine V_aald (o' := (14, 0, x1.toNatClampNeg)) C (ok9 (by decide)) 4 rfl rfl hv7 rfl dX5_setPond_46 ?_
        refine V_astore (lv' := [(4, .ref (ad (14, 0, x1.toNatClampNeg))), (0, .ref (ad (0, 0, 0))), (1, .int x1), (2, .int x2), (3, .int x3)]) C dX5_setPond_47 (by decide) rfl ?_
        refine V_aload C dX5_setPond_49 0 rfl ?_
        refine V_iload_n C dX5_setPond_51 3 rfl ?_
        refine V_put (ci := 4) C (ok14 (by decide) (vp_lt hv7)) uX4 tyX4 tyX4_ok nmX4 rfl 6 (Nat.le_of_ble_eq_true rfl) rfl rfl f107 rfl (ty := .int) (by decide +kernel) rfl rfl (Nat.le_of_ble_eq_true rfl) dX5_setPond_52 (fun τ8 hτ8 => ?_)
        replace hJ := hJ τ8 hτ8
        refine V_aload C dX5_setPond_55 0 rfl ?_
        refine V_iload_n C dX5_setPond_57 4 rfl ?_
        refine V_put (ci := 4) C (ok14 (by decide) (vp_lt hv7)) uX4 tyX4 tyX4_ok nmX4 rfl 8 (Nat.le_of_ble_eq_true rfl) rfl rfl f110 rfl (ty := .int) (by decide +kernel) rfl rfl (Nat.le_of_ble_eq_true rfl) dX5_setPond_58 (fun τ9 hτ9 => ?_)
        replace hJ := hJ τ9 hτ9
        refine V_aload C dX5_setPond_61 0 rfl ?_
        refine V_aload C dX5_setPond_63 0 rfl ?_
        refine V_get (ci := 4) C (ok14 (by decide) (vp_lt hv7)) uX4 rfl 7 (Nat.le_of_ble_eq_true rfl) rfl rfl f113 dX5_setPond_65 ?_
        refine V_iload_n C dX5_setPond_68 3 rfl ?_
        refine V_mmin C (List.mem_of_getElem? (i := 6) rfl) (List.mem_of_getElem? (i := 7) rfl) (List.mem_of_getElem? (i := 8) rfl) (List.mem_of_getElem? (i := 9) rfl) (Nat.le_of_ble_eq_true rfl) (Nat.le_of_ble_eq_true rfl) dX5_setPond_69 ?_
        refine V_put (ci := 4) C (ok14 (by decide) (vp_lt hv7)) uX4 tyX4 tyX4_ok nmX4 rfl 7 (Nat.le_of_ble_eq_true rfl) rfl rfl f113 rfl (ty := .int) (by decide +kernel) rfl rfl (Nat.le_of_ble_eq_true rfl) dX5_setPond_72 (fun τ10 hτ10 => ?_)
        replace hJ := hJ τ10 hτ10
        refine V_aload C dX5_setPond_75 0 rfl ?_
        refine V_get (ci := 4) C (ok14 (by decide) (vp_lt hv7)) uX4 rfl 7 (Nat.le_of_ble_eq_true rfl) rfl rfl f113 dX5_setPond_77 ?_
        exact V_iret C hr hlocks dX5_setPond_80 hJ
      · have hJ := hJf hc6; clear hJt hJf
        refine V_bipush (v := (-102)) C dX5_setPond_35 cb_m102 ?_
        exact V_iret C hr hlocks dX5_setPond_37 hJ
  · have hJ := hJf hc2; clear hJt hJf
    refine V_bipush (v := (-101)) C dX5_setPond_11 cb_m101 ?_
    exact V_iret C hr hlocks dX5_setPond_13 hJ
set_option maxHeartbeats 4000000 in
set_option maxRecDepth 100000 in
theorem M_X5_setRule (l : Launch) (D : va_G) (tc : Nat → ClassId) (ad : Oid → Nat) (A : Nat → Prop) (x1 : Int32) {σ : Mem} {Qr : Int32 → Mem → Prop} (hJ : J_X5_setRule x1 σ Qr) : Met l yX5_setRule wsX5_setRule ({ frames := 1, cells := 0, slots := 0, locals := 22 }) (va_Pc [.ref (ad (0, 0, 0)), .int x1] (WdI D vwCl (tysX tc) idsX ad (ceX tc ad) A σ)) (va_Qi (fun (r : Int32) (u : Mem) => Qr r u) (WdO D vwCl idsX ad (ceX tc ad) A) A) 0 0 A := by
  refine V_meti (cc := cX5_setRule) (nL := 3) (ret := (some .int)) (own := RX5) rfl (plainFor_of_name (by decide)) rfl rfl (Nat.le_of_ble_eq_true rfl) ?_
  intro p e s m below meth c C hr hlocks
  refine V_sub (lv' := [(0, .ref (ad (0, 0, 0))), (1, .int x1)]) [0, 1] rfl ?_
  have f10 : Cond.fieldLink RX5 10 (TX5 0).1 (TX5 0).2.1 (TX5 0).2.2.1 ∈ wsX5_setRule := List.mem_of_getElem? (i := 1) rfl
  have uX5 : ∀ w ∈ u_ws RX5 TX5 6, w ∈ wsX5_setRule := by decide +kernel
  have f132 : Cond.fieldLink RX5 132 (TX2 7).1 (TX2 7).2.1 (TX2 7).2.2.1 ∈ wsX5_setRule := List.mem_of_getElem? (i := 2) rfl
  have uX2 : ∀ w ∈ u_ws RX2 TX2 10, w ∈ wsX5_setRule := by decide +kernel
  unfold J_X5_setRule at hJ
  refine V_iload_n C dX5_setRule_0 1 rfl ?_
  refine V_iconst (v := 0) C dX5_setRule_1 ci_0 ?_
  refine V_iconst (v := 2) C dX5_setRule_2 ci_2 ?_
  refine V_cSi (st := []) C (M_X5_isWithin l D tc ad A x1 0 2 hJ) (va_cwS 3 C.1.2.2.2.2 gX5_setRule_X5_isWithin rfl rfl rfl (by decide +kernel) ⟨Nat.le_of_ble_eq_true rfl, Nat.le_of_ble_eq_true rfl⟩) rfl rfl (Nat.le_of_ble_eq_true rfl) dX5_setRule_3 (fun r1 τ1 hJ => ?_)
  obtain ⟨hJt, hJf⟩ := hJ
  refine V_if_ne C (tgt := 12) dX5_setRule_6 rfl (fun hc2 => ?_) (fun hc2 => ?_)
  · have hJ := hJt hc2; clear hJt hJf
    refine V_aload_n C dX5_setRule_12 0 rfl ?_
    refine V_get (ci := 5) C okX_0_0 uX5 rfl 0 (Nat.le_of_ble_eq_true rfl) rfl rfl f10 dX5_setRule_13 ?_
    refine V_get (ci := 2) C (ok7 (by decide)) uX2 rfl 7 (Nat.le_of_ble_eq_true rfl) rfl rfl f132 dX5_setRule_16 ?_
    refine V_topi (fun x2_3 hx2_3 => ?_)
    replace hJ := hJ x2_3 hx2_3
    refine V_istore_n (lv' := [(2, .int x2_3), (0, .ref (ad (0, 0, 0))), (1, .int x1)]) C dX5_setRule_19 (by decide) rfl ?_
    refine V_aload_n C dX5_setRule_20 1 rfl ?_
    refine V_get (ci := 5) C okX_0_0 uX5 rfl 0 (Nat.le_of_ble_eq_true rfl) rfl rfl f10 dX5_setRule_21 ?_
    refine V_iload_n C dX5_setRule_24 2 rfl ?_
    refine V_put (ci := 2) C (ok7 (by decide)) uX2 tyX2 tyX2_ok nmX2 rfl 7 (Nat.le_of_ble_eq_true rfl) rfl rfl f132 rfl (ty := .int) (by decide +kernel) rfl rfl (Nat.le_of_ble_eq_true rfl) dX5_setRule_25 (fun τ4 hτ4 => ?_)
    replace hJ := hJ τ4 hτ4
    refine V_iload_n C dX5_setRule_28 0 rfl ?_
    exact V_iret C hr hlocks dX5_setRule_29 hJ
  · have hJ := hJf hc2; clear hJt hJf
    refine V_bipush (v := (-102)) C dX5_setRule_9 cb_m102 ?_
    exact V_iret C hr hlocks dX5_setRule_11 hJ
set_option maxHeartbeats 4000000 in
set_option maxRecDepth 100000 in
theorem M_X5_setSupply (l : Launch) (D : va_G) (tc : Nat → ClassId) (ad : Oid → Nat) (A : Nat → Prop) (x1 : Int32) (x2 : Int32) (x3 : Int32) {σ : Mem} {Qr : Int32 → Mem → Prop} (hJ : J_X5_setSupply x1 x2 x3 σ Qr) : Met l yX5_setSupply wsX5_setSupply ({ frames := 2, cells := 0, slots := 0, locals := 43 }) (va_Pc [.ref (ad (0, 0, 0)), .int x1, .int x2, .int x3] (WdI D vwCl (tysX tc) idsX ad (ceX tc ad) A σ)) (va_Qi (fun (r : Int32) (u : Mem) => Qr r u) (WdO D vwCl idsX ad (ceX tc ad) A) A) 0 0 A := by
  refine V_meti (cc := cX5_setSupply) (nL := 5) (ret := (some .int)) (own := RX5) rfl (plainFor_of_name (by decide)) rfl rfl (Nat.le_of_ble_eq_true rfl) ?_
  intro p e s m below meth c C hr hlocks
  refine V_sub (lv' := [(0, .ref (ad (0, 0, 0))), (1, .int x1), (2, .int x2), (3, .int x3)]) [0, 1, 2, 3] rfl ?_
  have f10 : Cond.fieldLink RX5 10 (TX5 0).1 (TX5 0).2.1 (TX5 0).2.2.1 ∈ wsX5_setSupply := List.mem_of_getElem? (i := 1) rfl
  have uX5 : ∀ w ∈ u_ws RX5 TX5 6, w ∈ wsX5_setSupply := by decide +kernel
  have f125 : Cond.fieldLink RX5 125 (TX2 3).1 (TX2 3).2.1 (TX2 3).2.2.1 ∈ wsX5_setSupply := List.mem_of_getElem? (i := 2) rfl
  have uX2 : ∀ w ∈ u_ws RX2 TX2 10, w ∈ wsX5_setSupply := by decide +kernel
  unfold J_X5_setSupply at hJ
  refine V_iload_n C dX5_setSupply_0 1 rfl ?_
  refine V_iload_n C dX5_setSupply_1 2 rfl ?_
  refine V_cSi (st := []) C (M_X5_areHours l D tc ad A x1 x2 hJ) (va_cwS 2 C.1.2.2.2.2 gX5_setSupply_X5_areHours rfl rfl rfl (by decide +kernel) ⟨Nat.le_of_ble_eq_true rfl, Nat.le_of_ble_eq_true rfl⟩) rfl rfl (Nat.le_of_ble_eq_true rfl) dX5_setSupply_2 (fun r1 τ1 hJ => ?_)
  obtain ⟨hJt, hJf⟩ := hJ
  refine V_if_eq C (tgt := 19) dX5_setSupply_5 rfl (fun hc2 => ?_) (fun hc2 => ?_)
  · have hJ := hJt hc2; clear hJt hJf
    refine V_bipush (v := (-102)) C dX5_setSupply_19 cb_m102 ?_
    exact V_iret C hr hlocks dX5_setSupply_21 hJ
  · have hJ := hJf hc2; clear hJt hJf
    refine V_iload_n C dX5_setSupply_8 3 rfl ?_
    refine V_iconst (v := 0) C dX5_setSupply_9 ci_0 ?_
    refine V_sipush (v := 200) C dX5_setSupply_10 cs_200 ?_
    refine V_cSi (st := []) C (M_X5_isWithin l D tc ad A x3 0 200 hJ) (va_cwS 3 C.1.2.2.2.2 gX5_setSupply_X5_isWithin rfl rfl rfl (by decide +kernel) ⟨Nat.le_of_ble_eq_true rfl, Nat.le_of_ble_eq_true rfl⟩) rfl rfl (Nat.le_of_ble_eq_true rfl) dX5_setSupply_13 (fun r3 τ3 hJ => ?_)
    obtain ⟨hJt, hJf⟩ := hJ
    refine V_if_ne C (tgt := 22) dX5_setSupply_16 rfl (fun hc4 => ?_) (fun hc4 => ?_)
    · have hJ := hJt hc4; clear hJt hJf
      refine V_aload_n C dX5_setSupply_22 0 rfl ?_
      refine V_get (ci := 5) C okX_0_0 uX5 rfl 0 (Nat.le_of_ble_eq_true rfl) rfl rfl f10 dX5_setSupply_23 ?_
      refine V_get (ci := 2) C (ok7 (by decide)) uX2 rfl 3 (Nat.le_of_ble_eq_true rfl) rfl rfl f125 dX5_setSupply_26 ?_
      refine V_iload_n C dX5_setSupply_29 1 rfl ?_
      obtain ⟨hv5, hJ⟩ := hJ
      refine V_iald C (ok11 (by decide)) 0 rfl rfl rfl hv5 dX5_setSupply_30 ?_
      refine V_topi (fun x4_6 hx4_6 => ?_)
      replace hJ := hJ x4_6 hx4_6
      refine V_istore (lv' := [(4, .int x4_6), (0, .ref (ad (0, 0, 0))), (1, .int x1), (2, .int x2), (3, .int x3)]) C dX5_setSupply_31 (by decide) rfl ?_
      refine V_aload_n C dX5_setSupply_33 1 rfl ?_
      refine V_get (ci := 5) C okX_0_0 uX5 rfl 0 (Nat.le_of_ble_eq_true rfl) rfl rfl f10 dX5_setSupply_34 ?_
      refine V_iload_n C dX5_setSupply_37 2 rfl ?_
      refine V_iload_n C dX5_setSupply_38 3 rfl ?_
      refine V_iload_n C dX5_setSupply_39 4 rfl ?_
      refine V_cVv (st := []) (ci := 2) C (ok7 (by decide)) (M_X2_putSupply l D tc ad A 0 (by decide) x1 x2 x3 hJ) (cwV 3 C.1.2.2.2.2 gX5_setSupply_X2_putSupply rfl rfl rfl (by decide +kernel) ⟨Nat.le_of_ble_eq_true rfl, Nat.le_of_ble_eq_true rfl⟩) rfl rfl rfl rfl (Nat.le_of_ble_eq_true rfl) dX5_setSupply_40 (fun τ7 hJ => ?_)
      refine V_iload C dX5_setSupply_43 0 rfl ?_
      exact V_iret C hr hlocks dX5_setSupply_45 hJ
    · have hJ := hJf hc4; clear hJt hJf
      refine V_bipush (v := (-102)) C dX5_setSupply_19 cb_m102 ?_
      exact V_iret C hr hlocks dX5_setSupply_21 hJ
set_option maxHeartbeats 4000000 in
set_option maxRecDepth 100000 in
theorem M_X5_setTurn (l : Launch) (D : va_G) (tc : Nat → ClassId) (ad : Oid → Nat) (A : Nat → Prop) (x1 : Int32) (x2 : Int32) {σ : Mem} {Qr : Int32 → Mem → Prop} (hJ : J_X5_setTurn x1 x2 σ Qr) : Met l yX5_setTurn wsX5_setTurn ({ frames := 1, cells := 0, slots := 0, locals := 22 }) (va_Pc [.ref (ad (0, 0, 0)), .int x1, .int x2] (WdI D vwCl (tysX tc) idsX ad (ceX tc ad) A σ)) (va_Qi (fun (r : Int32) (u : Mem) => Qr r u) (WdO D vwCl idsX ad (ceX tc ad) A) A) 0 0 A := by
  refine V_meti (cc := cX5_setTurn) (nL := 5) (ret := (some .int)) (own := RX5) rfl (plainFor_of_name (by decide)) rfl rfl (Nat.le_of_ble_eq_true rfl) ?_
  intro p e s m below meth c C hr hlocks
  refine V_sub (lv' := [(0, .ref (ad (0, 0, 0))), (1, .int x1), (2, .int x2)]) [0, 1, 2] rfl ?_
  have f10 : Cond.fieldLink RX5 10 (TX5 0).1 (TX5 0).2.1 (TX5 0).2.2.1 ∈ wsX5_setTurn := List.mem_of_getElem? (i := 1) rfl
  have uX5 : ∀ w ∈ u_ws RX5 TX5 6, w ∈ wsX5_setTurn := by decide +kernel
  have f92 : Cond.fieldLink RX5 92 (TX2 1).1 (TX2 1).2.1 (TX2 1).2.2.1 ∈ wsX5_setTurn := List.mem_of_getElem? (i := 2) rfl
  have uX2 : ∀ w ∈ u_ws RX2 TX2 10, w ∈ wsX5_setTurn := by decide +kernel
  have f122 : Cond.fieldLink RX5 122 (TX4 9).1 (TX4 9).2.1 (TX4 9).2.2.1 ∈ wsX5_setTurn := List.mem_of_getElem? (i := 3) rfl
  have uX4 : ∀ w ∈ u_ws RX4 TX4 12, w ∈ wsX5_setTurn := by decide +kernel
  unfold J_X5_setTurn at hJ
  refine V_aload_n C dX5_setTurn_0 0 rfl ?_
  refine V_get (ci := 5) C okX_0_0 uX5 rfl 0 (Nat.le_of_ble_eq_true rfl) rfl rfl f10 dX5_setTurn_1 ?_
  refine V_iload_n C dX5_setTurn_4 1 rfl ?_
  refine V_cVi (st := []) (ci := 2) C (ok7 (by decide)) (M_X2_hasUser l D tc ad A 0 (by decide) x1 hJ) (cwV 1 C.1.2.2.2.2 gX5_setTurn_X2_hasUser rfl rfl rfl (by decide +kernel) ⟨Nat.le_of_ble_eq_true rfl, Nat.le_of_ble_eq_true rfl⟩) rfl rfl rfl rfl (Nat.le_of_ble_eq_true rfl) dX5_setTurn_5 (fun r1 τ1 hJ => ?_)
  obtain ⟨hJt, hJf⟩ := hJ
  refine V_if_ne C (tgt := 14) dX5_setTurn_8 rfl (fun hc2 => ?_) (fun hc2 => ?_)
  · have hJ := hJt hc2; clear hJt hJf
    refine V_iload_n C dX5_setTurn_14 2 rfl ?_
    refine V_iconst (v := 0) C dX5_setTurn_15 ci_0 ?_
    refine V_bipush (v := 24) C dX5_setTurn_16 cb_24 ?_
    refine V_cSi (st := []) C (M_X5_isWithin l D tc ad A x2 0 24 hJ) (va_cwS 3 C.1.2.2.2.2 gX5_setTurn_X5_isWithin rfl rfl rfl (by decide +kernel) ⟨Nat.le_of_ble_eq_true rfl, Nat.le_of_ble_eq_true rfl⟩) rfl rfl (Nat.le_of_ble_eq_true rfl) dX5_setTurn_18 (fun r3 τ3 hJ => ?_)
    obtain ⟨hJt, hJf⟩ := hJ
    refine V_if_ne C (tgt := 27) dX5_setTurn_21 rfl (fun hc4 => ?_) (fun hc4 => ?_)
    · have hJ := hJt hc4; clear hJt hJf
      refine V_aload_n C dX5_setTurn_27 0 rfl ?_
      refine V_get (ci := 5) C okX_0_0 uX5 rfl 0 (Nat.le_of_ble_eq_true rfl) rfl rfl f10 dX5_setTurn_28 ?_
      refine V_get (ci := 2) C (ok7 (by decide)) uX2 rfl 1 (Nat.le_of_ble_eq_true rfl) rfl rfl f92 dX5_setTurn_31 ?_
      refine V_iload_n C dX5_setTurn_34 1 rfl ?_
      obtain ⟨hv5, hJ⟩ := hJ
      refine V_aald (o' := (14, 0, x1.toNatClampNeg)) C (ok9 (by decide)) 4 rfl rfl hv5 rfl dX5_setTurn_35 ?_
      refine V_astore_n (lv' := [(3, .ref (ad (14, 0, x1.toNatClampNeg))), (0, .ref (ad (0, 0, 0))), (1, .int x1), (2, .int x2)]) C dX5_setTurn_36 (by decide) rfl ?_
      refine V_aload_n C dX5_setTurn_37 0 rfl ?_
      refine V_get (ci := 4) C (ok14 (by decide) (vp_lt hv5)) uX4 rfl 9 (Nat.le_of_ble_eq_true rfl) rfl rfl f122 dX5_setTurn_38 ?_
      refine V_topi (fun x4_6 hx4_6 => ?_)
      replace hJ := hJ x4_6 hx4_6
      refine V_istore (lv' := [(4, .int x4_6), (3, .ref (ad (14, 0, x1.toNatClampNeg))), (0, .ref (ad (0, 0, 0))), (1, .int x1), (2, .int x2)]) C dX5_setTurn_41 (by decide) rfl ?_
      refine V_aload_n C dX5_setTurn_43 1 rfl ?_
      refine V_iload_n C dX5_setTurn_44 4 rfl ?_
      refine V_put (ci := 4) C (ok14 (by decide) (vp_lt hv5)) uX4 tyX4 tyX4_ok nmX4 rfl 9 (Nat.le_of_ble_eq_true rfl) rfl rfl f122 rfl (ty := .int) (by decide +kernel) rfl rfl (Nat.le_of_ble_eq_true rfl) dX5_setTurn_45 (fun τ7 hτ7 => ?_)
      replace hJ := hJ τ7 hτ7
      refine V_iload C dX5_setTurn_48 0 rfl ?_
      exact V_iret C hr hlocks dX5_setTurn_50 hJ
    · have hJ := hJf hc4; clear hJt hJf
      refine V_bipush (v := (-102)) C dX5_setTurn_24 cb_m102 ?_
      exact V_iret C hr hlocks dX5_setTurn_26 hJ
  · have hJ := hJf hc2; clear hJt hJf
    refine V_bipush (v := (-101)) C dX5_setTurn_11 cb_m101 ?_
    exact V_iret C hr hlocks dX5_setTurn_13 hJ
set_option maxHeartbeats 4000000 in
set_option maxRecDepth 100000 in
theorem M_X5_settle (l : Launch) (D : va_G) (tc : Nat → ClassId) (ad : Oid → Nat) (A : Nat → Prop) {σ : Mem} {Qr : Int32 → Mem → Prop} (hJ : J_X5_settle σ Qr) : Met l yX5_settle wsX5_settle ({ frames := 6, cells := 0, slots := 0, locals := 140 }) (va_Pc [.ref (ad (0, 0, 0))] (WdI D vwCl (tysX tc) idsX ad (ceX tc ad) A σ)) (va_Qi (fun (r : Int32) (u : Mem) => Qr r u) (WdO D vwCl idsX ad (ceX tc ad) A) A) 0 0 A := by
  refine V_meti (cc := cX5_settle) (nL := 4) (ret := (some .int)) (own := RX5) rfl (plainFor_of_name (by decide)) rfl rfl (Nat.le_of_ble_eq_true rfl) ?_
  intro p e s m below meth c C hr hlocks
  refine V_sub (lv' := [(0, .ref (ad (0, 0, 0)))]) [0] rfl ?_
  have f10 : Cond.fieldLink RX5 10 (TX5 0).1 (TX5 0).2.1 (TX5 0).2.2.1 ∈ wsX5_settle := List.mem_of_getElem? (i := 1) rfl
  have uX5 : ∀ w ∈ u_ws RX5 TX5 6, w ∈ wsX5_settle := by decide +kernel
  have f83 : Cond.fieldLink RX5 83 (TX2 6).1 (TX2 6).2.1 (TX2 6).2.2.1 ∈ wsX5_settle := List.mem_of_getElem? (i := 2) rfl
  have uX2 : ∀ w ∈ u_ws RX2 TX2 10, w ∈ wsX5_settle := by decide +kernel
  have f138 : Cond.fieldLink RX5 138 (TX2 2).1 (TX2 2).2.1 (TX2 2).2.2.1 ∈ wsX5_settle := List.mem_of_getElem? (i := 3) rfl
  have f92 : Cond.fieldLink RX5 92 (TX2 1).1 (TX2 1).2.1 (TX2 1).2.2.1 ∈ wsX5_settle := List.mem_of_getElem? (i := 4) rfl
  have f203 : Cond.fieldLink RX5 203 (TX4 11).1 (TX4 11).2.1 (TX4 11).2.2.1 ∈ wsX5_settle := List.mem_of_getElem? (i := 5) rfl
  have uX4 : ∀ w ∈ u_ws RX4 TX4 12, w ∈ wsX5_settle := by decide +kernel
  unfold J_X5_settle at hJ
  refine V_iconst (v := 0) C dX5_settle_0 ci_0 ?_
  refine V_istore_n (lv' := [(1, .int 0), (0, .ref (ad (0, 0, 0)))]) C dX5_settle_1 (by decide) rfl ?_
  refine V_iconst (v := 0) C dX5_settle_2 ci_0 ?_
  refine V_istore_n (lv' := [(2, .int 0), (1, .int 0), (0, .ref (ad (0, 0, 0)))]) C dX5_settle_3 (by decide) rfl ?_
  refine V_sub (lv' := [(0, .ref (ad (0, 0, 0))), (1, .int 0), (2, .int 0)]) [2, 1, 0] rfl ?_
  obtain ⟨I4, μ4, hI4, hst4⟩ := hJ
  have L4 : ∀ (n : Nat) (x1_1 : Int32) (x2_1 : Int32) (τ1 : Mem), μ4 x1_1 x2_1 τ1 < n → I4 x1_1 x2_1 τ1 → VV p l e (headSpec wsX5_settle ({ frames := 6, cells := 0, slots := 0, locals := 140 })).room s m ([.ref (ad (0, 0, 0))] : List Value).toArray below meth c D vwCl idsX ad (ceX tc ad) A (MQ below (va_Qi (fun (r : Int32) (u : Mem) => Qr r u) (WdO D vwCl idsX ad (ceX tc ad) A) A) ([.ref (ad (0, 0, 0))] : List Value).toArray s 0 0 A) 4 4 [(0, .ref (ad (0, 0, 0))), (1, .int x1_1), (2, .int x2_1)] [] τ1 := by
    intro n
    induction n with
    | zero => intro x1_1 x2_1 τ1 hμ _; exact absurd hμ (Nat.not_lt_zero _)
    | succ n ihn =>
      intro x1_1 x2_1 τ1 hμ4 hJ
      have ih4 := ihn
      replace hJ := hst4 x1_1 x2_1 τ1 hJ
      refine V_iload_n C dX5_settle_4 2 rfl ?_
      refine V_aload_n C dX5_settle_5 0 rfl ?_
      refine V_get (ci := 5) C okX_0_0 uX5 rfl 0 (Nat.le_of_ble_eq_true rfl) rfl rfl f10 dX5_settle_6 ?_
      refine V_get (ci := 2) C (ok7 (by decide)) uX2 rfl 6 (Nat.le_of_ble_eq_true rfl) rfl rfl f83 dX5_settle_9 ?_
      obtain ⟨hJt, hJf⟩ := hJ
      refine V_icmp_ge C (tgt := 92) dX5_settle_12 rfl (fun hc2 => ?_) (fun hc2 => ?_)
      · have hJ := hJt hc2; clear hJt hJf
        refine V_iload_n C dX5_settle_92 1 rfl ?_
        exact V_iret C hr hlocks dX5_settle_93 hJ
      · have hJ := hJf hc2; clear hJt hJf
        refine V_aload_n C dX5_settle_15 0 rfl ?_
        refine V_get (ci := 5) C okX_0_0 uX5 rfl 0 (Nat.le_of_ble_eq_true rfl) rfl rfl f10 dX5_settle_16 ?_
        refine V_get (ci := 2) C (ok7 (by decide)) uX2 rfl 6 (Nat.le_of_ble_eq_true rfl) rfl rfl f83 dX5_settle_19 ?_
        refine V_iconst (v := 1) C dX5_settle_22 ci_1 ?_
        refine V_isub C dX5_settle_23 ?_
        refine V_topi (fun x3_3 hx3_3 => ?_)
        replace hJ := hJ x3_3 hx3_3
        refine V_istore_n (lv' := [(3, .int x3_3), (0, .ref (ad (0, 0, 0))), (1, .int x1_1), (2, .int x2_1)]) C dX5_settle_24 (by decide) rfl ?_
        refine V_sub (lv' := [(0, .ref (ad (0, 0, 0))), (1, .int x1_1), (2, .int x2_1), (3, .int x3_3)]) [1, 2, 3, 0] rfl ?_
        obtain ⟨I25, μ25, hI25, hst25⟩ := hJ
        have L25 : ∀ (n : Nat) (x1_4 : Int32) (x3_4 : Int32) (τ4 : Mem), μ25 x1_4 x3_4 τ4 < n → I25 x1_4 x3_4 τ4 → VV p l e (headSpec wsX5_settle ({ frames := 6, cells := 0, slots := 0, locals := 140 })).room s m ([.ref (ad (0, 0, 0))] : List Value).toArray below meth c D vwCl idsX ad (ceX tc ad) A (MQ below (va_Qi (fun (r : Int32) (u : Mem) => Qr r u) (WdO D vwCl idsX ad (ceX tc ad) A) A) ([.ref (ad (0, 0, 0))] : List Value).toArray s 0 0 A) 4 25 [(0, .ref (ad (0, 0, 0))), (1, .int x1_4), (2, .int x2_1), (3, .int x3_4)] [] τ4 := by
          intro n
          induction n with
          | zero => intro x1_4 x3_4 τ4 hμ _; exact absurd hμ (Nat.not_lt_zero _)
          | succ n ihn =>
            intro x1_4 x3_4 τ4 hμ25 hJ
            have ih25 := ihn
            replace hJ := hst25 x1_4 x3_4 τ4 hJ
            refine V_iload_n C dX5_settle_25 3 rfl ?_
            refine V_iload_n C dX5_settle_26 2 rfl ?_
            obtain ⟨hJt, hJf⟩ := hJ
            refine V_icmp_le C (tgt := 86) dX5_settle_27 rfl (fun hc5 => ?_) (fun hc5 => ?_)
            · have hJ := hJt hc5; clear hJt hJf
              obtain ⟨x2_6, hx2_6⟩ : ∃ y : Int32, y = x2_1 + 1 := ⟨_, rfl⟩
              replace hJ := hJ x2_6 hx2_6
              refine V_iinc (v := x2_6) (lv' := [(2, .int x2_6), (0, .ref (ad (0, 0, 0))), (1, .int x1_4), (3, .int x3_4)]) C dX5_settle_86 2 rfl (by rw [hx2_6]; exact congrArg _ ci_1) (by decide) rfl ?_
              refine V_goto C (tgt := 4) dX5_settle_89 rfl ?_
              refine V_sub (lv' := [(0, .ref (ad (0, 0, 0))), (1, .int x1_4), (2, .int x2_6)]) [1, 2, 0] rfl ?_
              exact ih4 x1_4 x2_6 τ4 (Nat.lt_of_lt_of_le hJ.2 (Nat.le_of_lt_succ hμ4)) hJ.1
            · have hJ := hJf hc5; clear hJt hJf
              refine V_aload_n C dX5_settle_30 0 rfl ?_
              refine V_aload_n C dX5_settle_31 0 rfl ?_
              refine V_get (ci := 5) C okX_0_0 uX5 rfl 0 (Nat.le_of_ble_eq_true rfl) rfl rfl f10 dX5_settle_32 ?_
              refine V_get (ci := 2) C (ok7 (by decide)) uX2 rfl 2 (Nat.le_of_ble_eq_true rfl) rfl rfl f138 dX5_settle_35 ?_
              refine V_iload_n C dX5_settle_38 2 rfl ?_
              obtain ⟨hv7, hJ⟩ := hJ
              refine V_iald C (ok10 (by decide)) 0 rfl rfl rfl hv7 dX5_settle_39 ?_
              refine V_aload_n C dX5_settle_40 0 rfl ?_
              refine V_get (ci := 5) C okX_0_0 uX5 rfl 0 (Nat.le_of_ble_eq_true rfl) rfl rfl f10 dX5_settle_41 ?_
              refine V_get (ci := 2) C (ok7 (by decide)) uX2 rfl 2 (Nat.le_of_ble_eq_true rfl) rfl rfl f138 dX5_settle_44 ?_
              refine V_iload_n C dX5_settle_47 3 rfl ?_
              obtain ⟨hv8, hJ⟩ := hJ
              refine V_iald C (ok10 (by decide)) 0 rfl rfl rfl hv8 dX5_settle_48 ?_
              refine V_cVi (st := []) (ci := 5) C okX_0_0 (M_X5_judge l D tc ad A (τ4 (10, 0, 0) x2_1.toNatClampNeg) (τ4 (10, 0, 0) x3_4.toNatClampNeg) hJ) (cwV 2 C.1.2.2.2.2 gX5_settle_X5_judge rfl rfl rfl (by decide +kernel) ⟨Nat.le_of_ble_eq_true rfl, Nat.le_of_ble_eq_true rfl⟩) rfl rfl rfl rfl (Nat.le_of_ble_eq_true rfl) dX5_settle_49 (fun r9 τ9 hJ => ?_)
              refine V_iconst (v := 2) C dX5_settle_52 ci_2 ?_
              obtain ⟨hJt, hJf⟩ := hJ
              refine V_icmp_ne C (tgt := 80) dX5_settle_53 rfl (fun hc10 => ?_) (fun hc10 => ?_)
              · have hJ := hJt hc10; clear hJt hJf
                obtain ⟨x3_11, hx3_11⟩ : ∃ y : Int32, y = x3_4 + (-1) := ⟨_, rfl⟩
                replace hJ := hJ x3_11 hx3_11
                refine V_iinc (v := x3_11) (lv' := [(3, .int x3_11), (0, .ref (ad (0, 0, 0))), (1, .int x1_4), (2, .int x2_1)]) C dX5_settle_80 3 rfl (by rw [hx3_11]; exact congrArg _ ci_m1) (by decide) rfl ?_
                refine V_goto C (tgt := 25) dX5_settle_83 rfl ?_
                refine V_sub (lv' := [(0, .ref (ad (0, 0, 0))), (1, .int x1_4), (2, .int x2_1), (3, .int x3_11)]) [1, 2, 3, 0] rfl ?_
                exact ih25 x1_4 x3_11 τ9 (Nat.lt_of_lt_of_le hJ.2 (Nat.le_of_lt_succ hμ25)) hJ.1
              · have hJ := hJf hc10; clear hJt hJf
                refine V_aload_n C dX5_settle_56 0 rfl ?_
                refine V_get (ci := 5) C okX_0_0 uX5 rfl 0 (Nat.le_of_ble_eq_true rfl) rfl rfl f10 dX5_settle_57 ?_
                refine V_get (ci := 2) C (ok7 (by decide)) uX2 rfl 1 (Nat.le_of_ble_eq_true rfl) rfl rfl f92 dX5_settle_60 ?_
                refine V_aload_n C dX5_settle_63 0 rfl ?_
                refine V_get (ci := 5) C okX_0_0 uX5 rfl 0 (Nat.le_of_ble_eq_true rfl) rfl rfl f10 dX5_settle_64 ?_
                refine V_get (ci := 2) C (ok7 (by decide)) uX2 rfl 2 (Nat.le_of_ble_eq_true rfl) rfl rfl f138 dX5_settle_67 ?_
                refine V_iload_n C dX5_settle_70 3 rfl ?_
                obtain ⟨hv12, hJ⟩ := hJ
                refine V_iald C (ok10 (by decide)) 0 rfl rfl rfl hv12 dX5_settle_71 ?_
                obtain ⟨hv13, hJ⟩ := hJ
                refine V_aald (o' := (14, 0, ((τ9 (10, 0, 0) x3_4.toNatClampNeg).toNatClampNeg))) C (ok9 (by decide)) 4 rfl rfl hv13 rfl dX5_settle_72 ?_
                refine V_iconst (v := 1) C dX5_settle_73 ci_1 ?_
                refine V_put (ci := 4) C (ok14 (by decide) (vp_lt hv13)) uX4 tyX4 tyX4_ok nmX4 rfl 11 (Nat.le_of_ble_eq_true rfl) rfl rfl f203 rfl (ty := .boolean) (by decide +kernel) (isB_narrow (Or.inr rfl)) (isB_fits (Or.inr rfl)) (Nat.le_of_ble_eq_true rfl) dX5_settle_74 (fun τ14 hτ14 => ?_)
                replace hJ := hJ τ14 hτ14
                obtain ⟨x1_15, hx1_15⟩ : ∃ y : Int32, y = x1_4 + 1 := ⟨_, rfl⟩
                replace hJ := hJ x1_15 hx1_15
                refine V_iinc (v := x1_15) (lv' := [(1, .int x1_15), (0, .ref (ad (0, 0, 0))), (2, .int x2_1), (3, .int x3_4)]) C dX5_settle_77 1 rfl (by rw [hx1_15]; exact congrArg _ ci_1) (by decide) rfl ?_
                obtain ⟨x3_16, hx3_16⟩ : ∃ y : Int32, y = x3_4 + (-1) := ⟨_, rfl⟩
                replace hJ := hJ x3_16 hx3_16
                refine V_iinc (v := x3_16) (lv' := [(3, .int x3_16), (1, .int x1_15), (0, .ref (ad (0, 0, 0))), (2, .int x2_1)]) C dX5_settle_80 3 rfl (by rw [hx3_16]; exact congrArg _ ci_m1) (by decide) rfl ?_
                refine V_goto C (tgt := 25) dX5_settle_83 rfl ?_
                refine V_sub (lv' := [(0, .ref (ad (0, 0, 0))), (1, .int x1_15), (2, .int x2_1), (3, .int x3_16)]) [2, 1, 3, 0] rfl ?_
                exact ih25 x1_15 x3_16 τ14 (Nat.lt_of_lt_of_le hJ.2 (Nat.le_of_lt_succ hμ25)) hJ.1
        exact L25 _ x1_1 x3_3 τ1 (Nat.lt_succ_self _) hI25
  exact L4 _ 0 0 σ (Nat.lt_succ_self _) hI4
set_option maxHeartbeats 4000000 in
set_option maxRecDepth 100000 in
theorem M_X5_time (l : Launch) (D : va_G) (tc : Nat → ClassId) (ad : Oid → Nat) (A : Nat → Prop) {σ : Mem} {Qr : Int32 → Mem → Prop} (hJ : J_X5_time σ Qr) : Met l yX5_time wsX5_time ({ frames := 0, cells := 0, slots := 0, locals := 0 }) (va_Pc [.ref (ad (0, 0, 0))] (WdI D vwCl (tysX tc) idsX ad (ceX tc ad) A σ)) (va_Qi (fun (r : Int32) (u : Mem) => Qr r u) (WdO D vwCl idsX ad (ceX tc ad) A) A) 0 0 A := by
  refine V_meti (cc := cX5_time) (nL := 1) (ret := (some .int)) (own := RX5) rfl (plainFor_of_name (by decide)) rfl rfl (Nat.le_of_ble_eq_true rfl) ?_
  intro p e s m below meth c C hr hlocks
  refine V_sub (lv' := [(0, .ref (ad (0, 0, 0)))]) [0] rfl ?_
  have f10 : Cond.fieldLink RX5 10 (TX5 0).1 (TX5 0).2.1 (TX5 0).2.2.1 ∈ wsX5_time := List.mem_of_getElem? (i := 1) rfl
  have uX5 : ∀ w ∈ u_ws RX5 TX5 6, w ∈ wsX5_time := by decide +kernel
  have f141 : Cond.fieldLink RX5 141 (TX2 9).1 (TX2 9).2.1 (TX2 9).2.2.1 ∈ wsX5_time := List.mem_of_getElem? (i := 2) rfl
  have uX2 : ∀ w ∈ u_ws RX2 TX2 10, w ∈ wsX5_time := by decide +kernel
  unfold J_X5_time at hJ
  refine V_aload_n C dX5_time_0 0 rfl ?_
  refine V_get (ci := 5) C okX_0_0 uX5 rfl 0 (Nat.le_of_ble_eq_true rfl) rfl rfl f10 dX5_time_1 ?_
  refine V_get (ci := 2) C (ok7 (by decide)) uX2 rfl 9 (Nat.le_of_ble_eq_true rfl) rfl rfl f141 dX5_time_4 ?_
  exact V_iret C hr hlocks dX5_time_7 hJ
set_option maxHeartbeats 4000000 in
set_option maxRecDepth 100000 in
theorem M_X5_turn (l : Launch) (D : va_G) (tc : Nat → ClassId) (ad : Oid → Nat) (A : Nat → Prop) {σ : Mem} {Qr : Int32 → Mem → Prop} (hJ : J_X5_turn σ Qr) : Met l yX5_turn wsX5_turn ({ frames := 2, cells := 0, slots := 0, locals := 45 }) (va_Pc [.ref (ad (0, 0, 0))] (WdI D vwCl (tysX tc) idsX ad (ceX tc ad) A σ)) (va_Qi (fun (r : Int32) (u : Mem) => Qr r u) (WdO D vwCl idsX ad (ceX tc ad) A) A) 0 0 A := by
  refine V_meti (cc := cX5_turn) (nL := 1) (ret := (some .int)) (own := RX5) rfl (plainFor_of_name (by decide)) rfl rfl (Nat.le_of_ble_eq_true rfl) ?_
  intro p e s m below meth c C hr hlocks
  refine V_sub (lv' := [(0, .ref (ad (0, 0, 0)))]) [0] rfl ?_
  have f10 : Cond.fieldLink RX5 10 (TX5 0).1 (TX5 0).2.1 (TX5 0).2.2.1 ∈ wsX5_turn := List.mem_of_getElem? (i := 1) rfl
  have uX5 : ∀ w ∈ u_ws RX5 TX5 6, w ∈ wsX5_turn := by decide +kernel
  unfold J_X5_turn at hJ
  refine V_aload_n C dX5_turn_0 0 rfl ?_
  refine V_get (ci := 5) C okX_0_0 uX5 rfl 0 (Nat.le_of_ble_eq_true rfl) rfl rfl f10 dX5_turn_1 ?_
  refine V_cVi (st := []) (ci := 2) C (ok7 (by decide)) (M_X2_userInTurn l D tc ad A 0 (by decide) hJ) (cwV 0 C.1.2.2.2.2 gX5_turn_X2_userInTurn rfl rfl rfl (by decide +kernel) ⟨Nat.le_of_ble_eq_true rfl, Nat.le_of_ble_eq_true rfl⟩) rfl rfl rfl rfl (Nat.le_of_ble_eq_true rfl) dX5_turn_4 (fun r1 τ1 hJ => ?_)
  exact V_iret C hr hlocks dX5_turn_7 hJ
set_option maxHeartbeats 4000000 in
set_option maxRecDepth 100000 in
theorem M_X5_unitsGotInTrial (l : Launch) (D : va_G) (tc : Nat → ClassId) (ad : Oid → Nat) (A : Nat → Prop) (x1 : Int32) (x2 : Int32) {σ : Mem} {Qr : Int32 → Mem → Prop} (hJ : J_X5_unitsGotInTrial x1 x2 σ Qr) : Met l yX5_unitsGotInTrial wsX5_unitsGotInTrial ({ frames := 4, cells := 0, slots := 0, locals := 93 }) (va_Pc [.ref (ad (0, 0, 0)), .int x1, .int x2] (WdI D vwCl (tysX tc) idsX ad (ceX tc ad) A σ)) (va_Qi (fun (r : Int32) (u : Mem) => Qr r u) (WdO D vwCl idsX ad (ceX tc ad) A) A) 0 0 A := by
  refine V_meti (cc := cX5_unitsGotInTrial) (nL := 3) (ret := (some .int)) (own := RX5) rfl (plainFor_of_name (by decide)) rfl rfl (Nat.le_of_ble_eq_true rfl) ?_
  intro p e s m below meth c C hr hlocks
  refine V_sub (lv' := [(0, .ref (ad (0, 0, 0))), (1, .int x1), (2, .int x2)]) [0, 1, 2] rfl ?_
  have f16 : Cond.fieldLink RX5 16 (TX5 1).1 (TX5 1).2.1 (TX5 1).2.2.1 ∈ wsX5_unitsGotInTrial := List.mem_of_getElem? (i := 1) rfl
  have uX5 : ∀ w ∈ u_ws RX5 TX5 6, w ∈ wsX5_unitsGotInTrial := by decide +kernel
  have f61 : Cond.fieldLink RX5 61 (TX2 0).1 (TX2 0).2.1 (TX2 0).2.2.1 ∈ wsX5_unitsGotInTrial := List.mem_of_getElem? (i := 2) rfl
  have uX2 : ∀ w ∈ u_ws RX2 TX2 10, w ∈ wsX5_unitsGotInTrial := by decide +kernel
  have f65 : Cond.fieldLink RX5 65 (TX0 1).1 (TX0 1).2.1 (TX0 1).2.2.1 ∈ wsX5_unitsGotInTrial := List.mem_of_getElem? (i := 3) rfl
  have uX0 : ∀ w ∈ u_ws RX0 TX0 3, w ∈ wsX5_unitsGotInTrial := by decide +kernel
  have f30 : Cond.fieldLink RX5 30 (TX5 4).1 (TX5 4).2.1 (TX5 4).2.2.1 ∈ wsX5_unitsGotInTrial := List.mem_of_getElem? (i := 4) rfl
  unfold J_X5_unitsGotInTrial at hJ
  refine V_aload_n C dX5_unitsGotInTrial_0 0 rfl ?_
  refine V_get (ci := 5) C okX_0_0 uX5 rfl 1 (Nat.le_of_ble_eq_true rfl) rfl rfl f16 dX5_unitsGotInTrial_1 ?_
  refine V_get (ci := 2) C (ok7 (by decide)) uX2 rfl 0 (Nat.le_of_ble_eq_true rfl) rfl rfl f61 dX5_unitsGotInTrial_4 ?_
  refine V_iload_n C dX5_unitsGotInTrial_7 1 rfl ?_
  obtain ⟨hv1, hJ⟩ := hJ
  refine V_aald (o' := (13, 1, x1.toNatClampNeg)) C (ok8 (by decide)) 3 rfl rfl hv1 rfl dX5_unitsGotInTrial_8 ?_
  refine V_iload_n C dX5_unitsGotInTrial_9 2 rfl ?_
  refine V_put (ci := 0) C (ok13 (by decide) (vp_lt hv1)) uX0 tyX0 tyX0_ok nmX0 rfl 1 (Nat.le_of_ble_eq_true rfl) rfl rfl f65 rfl (ty := .int) (by decide +kernel) rfl rfl (Nat.le_of_ble_eq_true rfl) dX5_unitsGotInTrial_10 (fun τ2 hτ2 => ?_)
  replace hJ := hJ τ2 hτ2
  refine V_aload_n C dX5_unitsGotInTrial_13 0 rfl ?_
  refine V_get (ci := 5) C okX_0_0 uX5 rfl 4 (Nat.le_of_ble_eq_true rfl) rfl rfl f30 dX5_unitsGotInTrial_14 ?_
  refine V_aload_n C dX5_unitsGotInTrial_17 0 rfl ?_
  refine V_get (ci := 5) C okX_0_0 uX5 rfl 1 (Nat.le_of_ble_eq_true rfl) rfl rfl f16 dX5_unitsGotInTrial_18 ?_
  refine V_cVv (st := []) (ci := 1) C okX_3_0 (M_X1_distribute l D tc ad A 1 (by decide) hJ) (cwV 1 C.1.2.2.2.2 gX5_unitsGotInTrial_X1_distribute rfl rfl rfl (by decide +kernel) ⟨Nat.le_of_ble_eq_true rfl, Nat.le_of_ble_eq_true rfl⟩) rfl rfl rfl rfl (Nat.le_of_ble_eq_true rfl) dX5_unitsGotInTrial_21 (fun τ3 hJ => ?_)
  refine V_aload_n C dX5_unitsGotInTrial_24 0 rfl ?_
  refine V_get (ci := 5) C okX_0_0 uX5 rfl 4 (Nat.le_of_ble_eq_true rfl) rfl rfl f30 dX5_unitsGotInTrial_25 ?_
  refine V_aload_n C dX5_unitsGotInTrial_28 0 rfl ?_
  refine V_get (ci := 5) C okX_0_0 uX5 rfl 1 (Nat.le_of_ble_eq_true rfl) rfl rfl f16 dX5_unitsGotInTrial_29 ?_
  refine V_cVi (st := []) (ci := 1) C okX_3_0 (M_X1_unitsGot l D tc ad A 1 (by decide) hJ) (cwV 1 C.1.2.2.2.2 gX5_unitsGotInTrial_X1_unitsGot rfl rfl rfl (by decide +kernel) ⟨Nat.le_of_ble_eq_true rfl, Nat.le_of_ble_eq_true rfl⟩) rfl rfl rfl rfl (Nat.le_of_ble_eq_true rfl) dX5_unitsGotInTrial_32 (fun r4 τ4 hJ => ?_)
  exact V_iret C hr hlocks dX5_unitsGotInTrial_35 hJ
set_option maxHeartbeats 4000000 in
set_option maxRecDepth 100000 in
theorem M_X5_usefulGate (l : Launch) (D : va_G) (tc : Nat → ClassId) (ad : Oid → Nat) (A : Nat → Prop) (x1 : Int32) {σ : Mem} {Qr : Int32 → Mem → Prop} (hJ : J_X5_usefulGate x1 σ Qr) : Met l yX5_usefulGate wsX5_usefulGate ({ frames := 5, cells := 0, slots := 0, locals := 115 }) (va_Pc [.ref (ad (0, 0, 0)), .int x1] (WdI D vwCl (tysX tc) idsX ad (ceX tc ad) A σ)) (va_Qi (fun (r : Int32) (u : Mem) => Qr r u) (WdO D vwCl idsX ad (ceX tc ad) A) A) 0 0 A := by
  refine V_meti (cc := cX5_usefulGate) (nL := 4) (ret := (some .int)) (own := RX5) rfl (plainFor_of_name (by decide)) rfl rfl (Nat.le_of_ble_eq_true rfl) ?_
  intro p e s m below meth c C hr hlocks
  refine V_sub (lv' := [(0, .ref (ad (0, 0, 0))), (1, .int x1)]) [0, 1] rfl ?_
  have f10 : Cond.fieldLink RX5 10 (TX5 0).1 (TX5 0).2.1 (TX5 0).2.2.1 ∈ wsX5_usefulGate := List.mem_of_getElem? (i := 1) rfl
  have uX5 : ∀ w ∈ u_ws RX5 TX5 6, w ∈ wsX5_usefulGate := by decide +kernel
  have f16 : Cond.fieldLink RX5 16 (TX5 1).1 (TX5 1).2.1 (TX5 1).2.2.1 ∈ wsX5_usefulGate := List.mem_of_getElem? (i := 2) rfl
  unfold J_X5_usefulGate at hJ
  refine V_aload_n C dX5_usefulGate_0 0 rfl ?_
  refine V_get (ci := 5) C okX_0_0 uX5 rfl 0 (Nat.le_of_ble_eq_true rfl) rfl rfl f10 dX5_usefulGate_1 ?_
  refine V_iload_n C dX5_usefulGate_4 1 rfl ?_
  refine V_cVi (st := []) (ci := 2) C (ok7 (by decide)) (M_X2_hasDitch l D tc ad A 0 (by decide) x1 hJ) (cwV 1 C.1.2.2.2.2 gX5_usefulGate_X2_hasDitch rfl rfl rfl (by decide +kernel) ⟨Nat.le_of_ble_eq_true rfl, Nat.le_of_ble_eq_true rfl⟩) rfl rfl rfl rfl (Nat.le_of_ble_eq_true rfl) dX5_usefulGate_5 (fun r1 τ1 hJ => ?_)
  obtain ⟨hJt, hJf⟩ := hJ
  refine V_if_ne C (tgt := 14) dX5_usefulGate_8 rfl (fun hc2 => ?_) (fun hc2 => ?_)
  · have hJ := hJt hc2; clear hJt hJf
    refine V_aload_n C dX5_usefulGate_14 0 rfl ?_
    refine V_get (ci := 5) C okX_0_0 uX5 rfl 1 (Nat.le_of_ble_eq_true rfl) rfl rfl f16 dX5_usefulGate_15 ?_
    refine V_aload_n C dX5_usefulGate_18 0 rfl ?_
    refine V_get (ci := 5) C okX_0_0 uX5 rfl 0 (Nat.le_of_ble_eq_true rfl) rfl rfl f10 dX5_usefulGate_19 ?_
    refine V_cVv (st := []) (ci := 2) C (ok7 (by decide)) (M_X2_copyFrom l D tc ad A 1 (by decide) 0 (by decide) hJ) (cwV 1 C.1.2.2.2.2 gX5_usefulGate_X2_copyFrom rfl rfl rfl (by decide +kernel) ⟨Nat.le_of_ble_eq_true rfl, Nat.le_of_ble_eq_true rfl⟩) rfl rfl rfl rfl (Nat.le_of_ble_eq_true rfl) dX5_usefulGate_22 (fun τ3 hJ => ?_)
    refine V_aload_n C dX5_usefulGate_25 0 rfl ?_
    refine V_iload_n C dX5_usefulGate_26 1 rfl ?_
    refine V_sipush (v := 200) C dX5_usefulGate_27 cs_200 ?_
    refine V_cVi (st := []) (ci := 5) C okX_0_0 (M_X5_unitsGotInTrial l D tc ad A x1 200 hJ) (cwV 2 C.1.2.2.2.2 gX5_usefulGate_X5_unitsGotInTrial rfl rfl rfl (by decide +kernel) ⟨Nat.le_of_ble_eq_true rfl, Nat.le_of_ble_eq_true rfl⟩) rfl rfl rfl rfl (Nat.le_of_ble_eq_true rfl) dX5_usefulGate_30 (fun r4 τ4 hJ => ?_)
    refine V_istore_n (lv' := [(2, .int r4), (0, .ref (ad (0, 0, 0))), (1, .int x1)]) C dX5_usefulGate_33 (by decide) rfl ?_
    refine V_iconst (v := 1) C dX5_usefulGate_34 ci_1 ?_
    refine V_istore_n (lv' := [(3, .int 1), (2, .int r4), (0, .ref (ad (0, 0, 0))), (1, .int x1)]) C dX5_usefulGate_35 (by decide) rfl ?_
    refine V_sub (lv' := [(0, .ref (ad (0, 0, 0))), (1, .int x1), (2, .int r4), (3, .int 1)]) [2, 3, 1, 0] rfl ?_
    obtain ⟨I36, μ36, hI36, hst36⟩ := hJ
    have L36 : ∀ (n : Nat) (x3_5 : Int32) (τ5 : Mem), μ36 x3_5 τ5 < n → I36 x3_5 τ5 → VV p l e (headSpec wsX5_usefulGate ({ frames := 5, cells := 0, slots := 0, locals := 115 })).room s m ([.ref (ad (0, 0, 0)), .int x1] : List Value).toArray below meth c D vwCl idsX ad (ceX tc ad) A (MQ below (va_Qi (fun (r : Int32) (u : Mem) => Qr r u) (WdO D vwCl idsX ad (ceX tc ad) A) A) ([.ref (ad (0, 0, 0)), .int x1] : List Value).toArray s 0 0 A) 4 36 [(0, .ref (ad (0, 0, 0))), (1, .int x1), (2, .int r4), (3, .int x3_5)] [] τ5 := by
      intro n
      induction n with
      | zero => intro x3_5 τ5 hμ _; exact absurd hμ (Nat.not_lt_zero _)
      | succ n ihn =>
        intro x3_5 τ5 hμ36 hJ
        have ih36 := ihn
        replace hJ := hst36 x3_5 τ5 hJ
        refine V_iload_n C dX5_usefulGate_36 3 rfl ?_
        refine V_sipush (v := 200) C dX5_usefulGate_37 cs_200 ?_
        obtain ⟨hJt, hJf⟩ := hJ
        refine V_icmp_ge C (tgt := 61) dX5_usefulGate_40 rfl (fun hc6 => ?_) (fun hc6 => ?_)
        · have hJ := hJt hc6; clear hJt hJf
          refine V_sipush (v := 200) C dX5_usefulGate_61 cs_200 ?_
          exact V_iret C hr hlocks dX5_usefulGate_64 hJ
        · have hJ := hJf hc6; clear hJt hJf
          refine V_aload_n C dX5_usefulGate_43 0 rfl ?_
          refine V_iload_n C dX5_usefulGate_44 1 rfl ?_
          refine V_iload_n C dX5_usefulGate_45 3 rfl ?_
          refine V_cVi (st := []) (ci := 5) C okX_0_0 (M_X5_unitsGotInTrial l D tc ad A x1 x3_5 hJ) (cwV 2 C.1.2.2.2.2 gX5_usefulGate_X5_unitsGotInTrial rfl rfl rfl (by decide +kernel) ⟨Nat.le_of_ble_eq_true rfl, Nat.le_of_ble_eq_true rfl⟩) rfl rfl rfl rfl (Nat.le_of_ble_eq_true rfl) dX5_usefulGate_46 (fun r7 τ7 hJ => ?_)
          refine V_iload_n C dX5_usefulGate_49 2 rfl ?_
          obtain ⟨hJt, hJf⟩ := hJ
          refine V_icmp_ne C (tgt := 55) dX5_usefulGate_50 rfl (fun hc8 => ?_) (fun hc8 => ?_)
          · have hJ := hJt hc8; clear hJt hJf
            obtain ⟨x3_9, hx3_9⟩ : ∃ y : Int32, y = x3_5 + 1 := ⟨_, rfl⟩
            replace hJ := hJ x3_9 hx3_9
            refine V_iinc (v := x3_9) (lv' := [(3, .int x3_9), (0, .ref (ad (0, 0, 0))), (1, .int x1), (2, .int r4)]) C dX5_usefulGate_55 3 rfl (by rw [hx3_9]; exact congrArg _ ci_1) (by decide) rfl ?_
            refine V_goto C (tgt := 36) dX5_usefulGate_58 rfl ?_
            refine V_sub (lv' := [(0, .ref (ad (0, 0, 0))), (1, .int x1), (2, .int r4), (3, .int x3_9)]) [1, 2, 3, 0] rfl ?_
            exact ih36 x3_9 τ7 (Nat.lt_of_lt_of_le hJ.2 (Nat.le_of_lt_succ hμ36)) hJ.1
          · have hJ := hJf hc8; clear hJt hJf
            refine V_iload_n C dX5_usefulGate_53 3 rfl ?_
            exact V_iret C hr hlocks dX5_usefulGate_54 hJ
    exact L36 _ 1 τ4 (Nat.lt_succ_self _) hI36
  · have hJ := hJf hc2; clear hJt hJf
    refine V_bipush (v := (-101)) C dX5_usefulGate_11 cb_m101 ?_
    exact V_iret C hr hlocks dX5_usefulGate_13 hJ
set_option maxHeartbeats 4000000 in
set_option maxRecDepth 100000 in
theorem M_X5_userByAge (l : Launch) (D : va_G) (tc : Nat → ClassId) (ad : Oid → Nat) (A : Nat → Prop) (x1 : Int32) {σ : Mem} {Qr : Int32 → Mem → Prop} (hJ : J_X5_userByAge x1 σ Qr) : Met l yX5_userByAge wsX5_userByAge ({ frames := 1, cells := 0, slots := 0, locals := 21 }) (va_Pc [.ref (ad (0, 0, 0)), .int x1] (WdI D vwCl (tysX tc) idsX ad (ceX tc ad) A σ)) (va_Qi (fun (r : Int32) (u : Mem) => Qr r u) (WdO D vwCl idsX ad (ceX tc ad) A) A) 0 0 A := by
  refine V_meti (cc := cX5_userByAge) (nL := 2) (ret := (some .int)) (own := RX5) rfl (plainFor_of_name (by decide)) rfl rfl (Nat.le_of_ble_eq_true rfl) ?_
  intro p e s m below meth c C hr hlocks
  refine V_sub (lv' := [(0, .ref (ad (0, 0, 0))), (1, .int x1)]) [0, 1] rfl ?_
  have f10 : Cond.fieldLink RX5 10 (TX5 0).1 (TX5 0).2.1 (TX5 0).2.2.1 ∈ wsX5_userByAge := List.mem_of_getElem? (i := 1) rfl
  have uX5 : ∀ w ∈ u_ws RX5 TX5 6, w ∈ wsX5_userByAge := by decide +kernel
  have f138 : Cond.fieldLink RX5 138 (TX2 2).1 (TX2 2).2.1 (TX2 2).2.2.1 ∈ wsX5_userByAge := List.mem_of_getElem? (i := 2) rfl
  have uX2 : ∀ w ∈ u_ws RX2 TX2 10, w ∈ wsX5_userByAge := by decide +kernel
  unfold J_X5_userByAge at hJ
  refine V_aload_n C dX5_userByAge_0 0 rfl ?_
  refine V_get (ci := 5) C okX_0_0 uX5 rfl 0 (Nat.le_of_ble_eq_true rfl) rfl rfl f10 dX5_userByAge_1 ?_
  refine V_iload_n C dX5_userByAge_4 1 rfl ?_
  refine V_cVi (st := []) (ci := 2) C (ok7 (by decide)) (M_X2_hasUser l D tc ad A 0 (by decide) x1 hJ) (cwV 1 C.1.2.2.2.2 gX5_userByAge_X2_hasUser rfl rfl rfl (by decide +kernel) ⟨Nat.le_of_ble_eq_true rfl, Nat.le_of_ble_eq_true rfl⟩) rfl rfl rfl rfl (Nat.le_of_ble_eq_true rfl) dX5_userByAge_5 (fun r1 τ1 hJ => ?_)
  obtain ⟨hJt, hJf⟩ := hJ
  refine V_if_eq C (tgt := 23) dX5_userByAge_8 rfl (fun hc2 => ?_) (fun hc2 => ?_)
  · have hJ := hJt hc2; clear hJt hJf
    refine V_bipush (v := (-101)) C dX5_userByAge_23 cb_m101 ?_
    exact V_iret C hr hlocks dX5_userByAge_25 hJ
  · have hJ := hJf hc2; clear hJt hJf
    refine V_aload_n C dX5_userByAge_11 0 rfl ?_
    refine V_get (ci := 5) C okX_0_0 uX5 rfl 0 (Nat.le_of_ble_eq_true rfl) rfl rfl f10 dX5_userByAge_12 ?_
    refine V_get (ci := 2) C (ok7 (by decide)) uX2 rfl 2 (Nat.le_of_ble_eq_true rfl) rfl rfl f138 dX5_userByAge_15 ?_
    refine V_iload_n C dX5_userByAge_18 1 rfl ?_
    obtain ⟨hv3, hJ⟩ := hJ
    refine V_iald C (ok10 (by decide)) 0 rfl rfl rfl hv3 dX5_userByAge_19 ?_
    refine V_goto C (tgt := 25) dX5_userByAge_20 rfl ?_
    exact V_iret C hr hlocks dX5_userByAge_25 hJ
set_option maxHeartbeats 4000000 in
set_option maxRecDepth 100000 in
theorem M_X5_users (l : Launch) (D : va_G) (tc : Nat → ClassId) (ad : Oid → Nat) (A : Nat → Prop) {σ : Mem} {Qr : Int32 → Mem → Prop} (hJ : J_X5_users σ Qr) : Met l yX5_users wsX5_users ({ frames := 0, cells := 0, slots := 0, locals := 0 }) (va_Pc [.ref (ad (0, 0, 0))] (WdI D vwCl (tysX tc) idsX ad (ceX tc ad) A σ)) (va_Qi (fun (r : Int32) (u : Mem) => Qr r u) (WdO D vwCl idsX ad (ceX tc ad) A) A) 0 0 A := by
  refine V_meti (cc := cX5_users) (nL := 1) (ret := (some .int)) (own := RX5) rfl (plainFor_of_name (by decide)) rfl rfl (Nat.le_of_ble_eq_true rfl) ?_
  intro p e s m below meth c C hr hlocks
  refine V_sub (lv' := [(0, .ref (ad (0, 0, 0)))]) [0] rfl ?_
  have f10 : Cond.fieldLink RX5 10 (TX5 0).1 (TX5 0).2.1 (TX5 0).2.2.1 ∈ wsX5_users := List.mem_of_getElem? (i := 1) rfl
  have uX5 : ∀ w ∈ u_ws RX5 TX5 6, w ∈ wsX5_users := by decide +kernel
  have f83 : Cond.fieldLink RX5 83 (TX2 6).1 (TX2 6).2.1 (TX2 6).2.2.1 ∈ wsX5_users := List.mem_of_getElem? (i := 2) rfl
  have uX2 : ∀ w ∈ u_ws RX2 TX2 10, w ∈ wsX5_users := by decide +kernel
  unfold J_X5_users at hJ
  refine V_aload_n C dX5_users_0 0 rfl ?_
  refine V_get (ci := 5) C okX_0_0 uX5 rfl 0 (Nat.le_of_ble_eq_true rfl) rfl rfl f10 dX5_users_1 ?_
  refine V_get (ci := 2) C (ok7 (by decide)) uX2 rfl 6 (Nat.le_of_ble_eq_true rfl) rfl rfl f83 dX5_users_4 ?_
  exact V_iret C hr hlocks dX5_users_7 hJ
set_option maxHeartbeats 4000000 in
set_option maxRecDepth 100000 in
theorem M_X5_willMiss (l : Launch) (D : va_G) (tc : Nat → ClassId) (ad : Oid → Nat) (A : Nat → Prop) (x1 : Int32) (x2 : Int32) {σ : Mem} {Qr : Int32 → Mem → Prop} (hJ : J_X5_willMiss x1 x2 σ Qr) : Met l yX5_willMiss wsX5_willMiss ({ frames := 5, cells := 0, slots := 0, locals := 116 }) (va_Pc [.ref (ad (0, 0, 0)), .int x1, .int x2] (WdI D vwCl (tysX tc) idsX ad (ceX tc ad) A σ)) (va_Qi (fun (r : Int32) (u : Mem) => Qr r u) (WdO D vwCl idsX ad (ceX tc ad) A) A) 0 0 A := by
  refine V_meti (cc := cX5_willMiss) (nL := 4) (ret := (some .int)) (own := RX5) rfl (plainFor_of_name (by decide)) rfl rfl (Nat.le_of_ble_eq_true rfl) ?_
  intro p e s m below meth c C hr hlocks
  refine V_sub (lv' := [(0, .ref (ad (0, 0, 0))), (1, .int x1), (2, .int x2)]) [0, 1, 2] rfl ?_
  have f10 : Cond.fieldLink RX5 10 (TX5 0).1 (TX5 0).2.1 (TX5 0).2.2.1 ∈ wsX5_willMiss := List.mem_of_getElem? (i := 1) rfl
  have uX5 : ∀ w ∈ u_ws RX5 TX5 6, w ∈ wsX5_willMiss := by decide +kernel
  have f16 : Cond.fieldLink RX5 16 (TX5 1).1 (TX5 1).2.1 (TX5 1).2.2.1 ∈ wsX5_willMiss := List.mem_of_getElem? (i := 2) rfl
  have f92 : Cond.fieldLink RX5 92 (TX2 1).1 (TX2 1).2.1 (TX2 1).2.2.1 ∈ wsX5_willMiss := List.mem_of_getElem? (i := 4) rfl
  have uX2 : ∀ w ∈ u_ws RX2 TX2 10, w ∈ wsX5_willMiss := by decide +kernel
  have f188 : Cond.fieldLink RX5 188 (TX4 10).1 (TX4 10).2.1 (TX4 10).2.2.1 ∈ wsX5_willMiss := List.mem_of_getElem? (i := 5) rfl
  have uX4 : ∀ w ∈ u_ws RX4 TX4 12, w ∈ wsX5_willMiss := by decide +kernel
  have f30 : Cond.fieldLink RX5 30 (TX5 4).1 (TX5 4).2.1 (TX5 4).2.2.1 ∈ wsX5_willMiss := List.mem_of_getElem? (i := 3) rfl
  unfold J_X5_willMiss at hJ
  refine V_aload_n C dX5_willMiss_0 0 rfl ?_
  refine V_get (ci := 5) C okX_0_0 uX5 rfl 0 (Nat.le_of_ble_eq_true rfl) rfl rfl f10 dX5_willMiss_1 ?_
  refine V_iload_n C dX5_willMiss_4 1 rfl ?_
  refine V_cVi (st := []) (ci := 2) C (ok7 (by decide)) (M_X2_hasUser l D tc ad A 0 (by decide) x1 hJ) (cwV 1 C.1.2.2.2.2 gX5_willMiss_X2_hasUser rfl rfl rfl (by decide +kernel) ⟨Nat.le_of_ble_eq_true rfl, Nat.le_of_ble_eq_true rfl⟩) rfl rfl rfl rfl (Nat.le_of_ble_eq_true rfl) dX5_willMiss_5 (fun r1 τ1 hJ => ?_)
  obtain ⟨hJt, hJf⟩ := hJ
  refine V_if_ne C (tgt := 14) dX5_willMiss_8 rfl (fun hc2 => ?_) (fun hc2 => ?_)
  · have hJ := hJt hc2; clear hJt hJf
    refine V_iload_n C dX5_willMiss_14 2 rfl ?_
    refine V_iconst (v := 1) C dX5_willMiss_15 ci_1 ?_
    refine V_bipush (v := 48) C dX5_willMiss_16 cb_48 ?_
    refine V_cSi (st := []) C (M_X5_isWithin l D tc ad A x2 1 48 hJ) (va_cwS 3 C.1.2.2.2.2 gX5_willMiss_X5_isWithin rfl rfl rfl (by decide +kernel) ⟨Nat.le_of_ble_eq_true rfl, Nat.le_of_ble_eq_true rfl⟩) rfl rfl (Nat.le_of_ble_eq_true rfl) dX5_willMiss_18 (fun r3 τ3 hJ => ?_)
    obtain ⟨hJt, hJf⟩ := hJ
    refine V_if_ne C (tgt := 27) dX5_willMiss_21 rfl (fun hc4 => ?_) (fun hc4 => ?_)
    · have hJ := hJt hc4; clear hJt hJf
      refine V_aload_n C dX5_willMiss_27 0 rfl ?_
      refine V_get (ci := 5) C okX_0_0 uX5 rfl 1 (Nat.le_of_ble_eq_true rfl) rfl rfl f16 dX5_willMiss_28 ?_
      refine V_aload_n C dX5_willMiss_31 0 rfl ?_
      refine V_get (ci := 5) C okX_0_0 uX5 rfl 0 (Nat.le_of_ble_eq_true rfl) rfl rfl f10 dX5_willMiss_32 ?_
      refine V_cVv (st := []) (ci := 2) C (ok7 (by decide)) (M_X2_copyFrom l D tc ad A 1 (by decide) 0 (by decide) hJ) (cwV 1 C.1.2.2.2.2 gX5_willMiss_X2_copyFrom rfl rfl rfl (by decide +kernel) ⟨Nat.le_of_ble_eq_true rfl, Nat.le_of_ble_eq_true rfl⟩) rfl rfl rfl rfl (Nat.le_of_ble_eq_true rfl) dX5_willMiss_35 (fun τ5 hJ => ?_)
      refine V_iconst (v := 0) C dX5_willMiss_38 ci_0 ?_
      refine V_istore_n (lv' := [(3, .int 0), (0, .ref (ad (0, 0, 0))), (1, .int x1), (2, .int x2)]) C dX5_willMiss_39 (by decide) rfl ?_
      refine V_sub (lv' := [(0, .ref (ad (0, 0, 0))), (1, .int x1), (2, .int x2), (3, .int 0)]) [1, 2, 3, 0] rfl ?_
      obtain ⟨I40, μ40, hI40, hst40⟩ := hJ
      have L40 : ∀ (n : Nat) (x3_6 : Int32) (τ6 : Mem), μ40 x3_6 τ6 < n → I40 x3_6 τ6 → VV p l e (headSpec wsX5_willMiss ({ frames := 5, cells := 0, slots := 0, locals := 116 })).room s m ([.ref (ad (0, 0, 0)), .int x1, .int x2] : List Value).toArray below meth c D vwCl idsX ad (ceX tc ad) A (MQ below (va_Qi (fun (r : Int32) (u : Mem) => Qr r u) (WdO D vwCl idsX ad (ceX tc ad) A) A) ([.ref (ad (0, 0, 0)), .int x1, .int x2] : List Value).toArray s 0 0 A) 4 40 [(0, .ref (ad (0, 0, 0))), (1, .int x1), (2, .int x2), (3, .int x3_6)] [] τ6 := by
        intro n
        induction n with
        | zero => intro x3_6 τ6 hμ _; exact absurd hμ (Nat.not_lt_zero _)
        | succ n ihn =>
          intro x3_6 τ6 hμ40 hJ
          have ih40 := ihn
          replace hJ := hst40 x3_6 τ6 hJ
          refine V_iload_n C dX5_willMiss_40 3 rfl ?_
          refine V_iload_n C dX5_willMiss_41 2 rfl ?_
          obtain ⟨hJt, hJf⟩ := hJ
          refine V_icmp_ge C (tgt := 63) dX5_willMiss_42 rfl (fun hc7 => ?_) (fun hc7 => ?_)
          · have hJ := hJt hc7; clear hJt hJf
            refine V_aload_n C dX5_willMiss_63 0 rfl ?_
            refine V_get (ci := 5) C okX_0_0 uX5 rfl 1 (Nat.le_of_ble_eq_true rfl) rfl rfl f16 dX5_willMiss_64 ?_
            refine V_get (ci := 2) C (ok7 (by decide)) uX2 rfl 1 (Nat.le_of_ble_eq_true rfl) rfl rfl f92 dX5_willMiss_67 ?_
            refine V_iload_n C dX5_willMiss_70 1 rfl ?_
            obtain ⟨hv8, hJ⟩ := hJ
            refine V_aald (o' := (14, 1, x1.toNatClampNeg)) C (ok9 (by decide)) 4 rfl rfl hv8 rfl dX5_willMiss_71 ?_
            refine V_get (ci := 4) C (ok14 (by decide) (vp_lt hv8)) uX4 rfl 10 (Nat.le_of_ble_eq_true rfl) rfl rfl f188 dX5_willMiss_72 ?_
            refine V_aload_n C dX5_willMiss_75 0 rfl ?_
            refine V_get (ci := 5) C okX_0_0 uX5 rfl 0 (Nat.le_of_ble_eq_true rfl) rfl rfl f10 dX5_willMiss_76 ?_
            refine V_get (ci := 2) C (ok7 (by decide)) uX2 rfl 1 (Nat.le_of_ble_eq_true rfl) rfl rfl f92 dX5_willMiss_79 ?_
            refine V_iload_n C dX5_willMiss_82 1 rfl ?_
            obtain ⟨hv9, hJ⟩ := hJ
            refine V_aald (o' := (14, 0, x1.toNatClampNeg)) C (ok9 (by decide)) 4 rfl rfl hv9 rfl dX5_willMiss_83 ?_
            refine V_get (ci := 4) C (ok14 (by decide) (vp_lt hv9)) uX4 rfl 10 (Nat.le_of_ble_eq_true rfl) rfl rfl f188 dX5_willMiss_84 ?_
            refine V_isub C dX5_willMiss_87 ?_
            exact V_iret C hr hlocks dX5_willMiss_88 hJ
          · have hJ := hJf hc7; clear hJt hJf
            refine V_aload_n C dX5_willMiss_45 0 rfl ?_
            refine V_get (ci := 5) C okX_0_0 uX5 rfl 1 (Nat.le_of_ble_eq_true rfl) rfl rfl f16 dX5_willMiss_46 ?_
            refine V_aload_n C dX5_willMiss_49 0 rfl ?_
            refine V_get (ci := 5) C okX_0_0 uX5 rfl 4 (Nat.le_of_ble_eq_true rfl) rfl rfl f30 dX5_willMiss_50 ?_
            refine V_cVi (st := []) (ci := 2) C (ok7 (by decide)) (M_X2_passHour l D tc ad A 1 (by decide) hJ) (cwV 1 C.1.2.2.2.2 gX5_willMiss_X2_passHour rfl rfl rfl (by decide +kernel) ⟨Nat.le_of_ble_eq_true rfl, Nat.le_of_ble_eq_true rfl⟩) rfl rfl rfl rfl (Nat.le_of_ble_eq_true rfl) dX5_willMiss_53 (fun r10 τ10 hJ => ?_)
            refine V_pop C dX5_willMiss_56 rfl ?_
            obtain ⟨x3_11, hx3_11⟩ : ∃ y : Int32, y = x3_6 + 1 := ⟨_, rfl⟩
            replace hJ := hJ x3_11 hx3_11
            refine V_iinc (v := x3_11) (lv' := [(3, .int x3_11), (0, .ref (ad (0, 0, 0))), (1, .int x1), (2, .int x2)]) C dX5_willMiss_57 3 rfl (by rw [hx3_11]; exact congrArg _ ci_1) (by decide) rfl ?_
            refine V_goto C (tgt := 40) dX5_willMiss_60 rfl ?_
            refine V_sub (lv' := [(0, .ref (ad (0, 0, 0))), (1, .int x1), (2, .int x2), (3, .int x3_11)]) [1, 2, 3, 0] rfl ?_
            exact ih40 x3_11 τ10 (Nat.lt_of_lt_of_le hJ.2 (Nat.le_of_lt_succ hμ40)) hJ.1
      exact L40 _ 0 τ5 (Nat.lt_succ_self _) hI40
    · have hJ := hJf hc4; clear hJt hJf
      refine V_bipush (v := (-102)) C dX5_willMiss_24 cb_m102 ?_
      exact V_iret C hr hlocks dX5_willMiss_26 hJ
  · have hJ := hJf hc2; clear hJt hJf
    refine V_bipush (v := (-101)) C dX5_willMiss_11 cb_m101 ?_
    exact V_iret C hr hlocks dX5_willMiss_13 hJ
