set_option maxHeartbeats 4000000 in
set_option maxRecDepth 100000 in
theorem M_X6_setRule (l : Launch) (D : va_G) (tc : Nat → ClassId) (ad : Oid → Nat) (A : Nat → Prop) (x1 : Int32) {σ : Mem} {Qr : Int32 → Mem → Prop} (hJ : J_X6_setRule x1 σ Qr) : Met l yX6_setRule wsX6_setRule ({ frames := 1, cells := 0, slots := 0, locals := 23 }) (va_Pc [.ref (ad (0, 0, 0)), .int x1] (WdI D vwCl (tysX tc) idsM ad (ceM tc ad) A σ)) (va_Qi (fun (r : Int32) (u : Mem) => Qr r u) (WdO D vwCl idsM ad (ceM tc ad) A) A) 0 0 A := by
  refine V_meti (cc := cX6_setRule) (nL := 2) (ret := (some .int)) (own := RX6) rfl (plainFor_of_name (by decide)) rfl rfl (Nat.le_of_ble_eq_true rfl) ?_
  intro p e s m below meth c C hr hlocks
  refine V_sub (lv' := [(0, .ref (ad (0, 0, 0))), (1, .int x1)]) [0, 1] rfl ?_
  unfold J_X6_setRule at hJ
  refine V_iload_n C dX6_setRule_0 1 rfl ?_
  refine V_iconst (v := 0) C dX6_setRule_1 ci_0 ?_
  refine V_iconst (v := 2) C dX6_setRule_2 ci_2 ?_
  refine V_cSi (st := []) C (M_X6_in l D tc ad A x1 0 2 hJ) (va_cwS 3 C.1.2.2.2.2 gX6_setRule_X6_in rfl rfl rfl (by decide +kernel) ⟨Nat.le_of_ble_eq_true rfl, Nat.le_of_ble_eq_true rfl⟩) rfl rfl (Nat.le_of_ble_eq_true rfl) dX6_setRule_3 (fun r1 τ1 hJ => ?_)
  obtain ⟨hJt, hJf⟩ := hJ
  refine V_if_eq C (tgt := 18) dX6_setRule_6 rfl (fun hc2 => ?_) (fun hc2 => ?_)
  · have hJ := hJt hc2; clear hJt hJf
    refine V_bipush (v := (-102)) C dX6_setRule_18 cb_m102 ?_
    exact V_iret C hr hlocks dX6_setRule_20 hJ
  · have hJ := hJf hc2; clear hJt hJf
    refine V_aload_n C dX6_setRule_9 0 rfl ?_
    refine V_iconst (v := 3) C dX6_setRule_10 ci_3 ?_
    refine V_iload_n C dX6_setRule_11 1 rfl ?_
    refine V_cVi (st := []) (ci := 6) C okM_0 (M_X6_puts l D tc ad A 3 x1 hJ) (cwV 2 C.1.2.2.2.2 gX6_setRule_X6_puts rfl rfl rfl (by decide +kernel) ⟨Nat.le_of_ble_eq_true rfl, Nat.le_of_ble_eq_true rfl⟩) rfl rfl rfl rfl (Nat.le_of_ble_eq_true rfl) dX6_setRule_12 (fun r3 τ3 hJ => ?_)
    refine V_goto C (tgt := 20) dX6_setRule_15 rfl ?_
    exact V_iret C hr hlocks dX6_setRule_20 hJ
set_option maxHeartbeats 4000000 in
set_option maxRecDepth 100000 in
theorem M_X6_setSupply (l : Launch) (D : va_G) (tc : Nat → ClassId) (ad : Oid → Nat) (A : Nat → Prop) (x1 : Int32) (x2 : Int32) (x3 : Int32) {σ : Mem} {Qr : Int32 → Mem → Prop} (hJ : J_X6_setSupply x1 x2 x3 σ Qr) : Met l yX6_setSupply wsX6_setSupply ({ frames := 1, cells := 0, slots := 0, locals := 25 }) (va_Pc [.ref (ad (0, 0, 0)), .int x1, .int x2, .int x3] (WdI D vwCl (tysX tc) idsM ad (ceM tc ad) A σ)) (va_Qi (fun (r : Int32) (u : Mem) => Qr r u) (WdO D vwCl idsM ad (ceM tc ad) A) A) 0 0 A := by
  refine V_meti (cc := cX6_setSupply) (nL := 4) (ret := (some .int)) (own := RX6) rfl (plainFor_of_name (by decide)) rfl rfl (Nat.le_of_ble_eq_true rfl) ?_
  intro p e s m below meth c C hr hlocks
  refine V_sub (lv' := [(0, .ref (ad (0, 0, 0))), (1, .int x1), (2, .int x2), (3, .int x3)]) [0, 1, 2, 3] rfl ?_
  unfold J_X6_setSupply at hJ
  refine V_iload_n C dX6_setSupply_0 1 rfl ?_
  refine V_iconst (v := 0) C dX6_setSupply_1 ci_0 ?_
  refine V_bipush (v := 23) C dX6_setSupply_2 cb_23 ?_
  refine V_cSi (st := []) C (M_X6_in l D tc ad A x1 0 23 hJ) (va_cwS 3 C.1.2.2.2.2 gX6_setSupply_X6_in rfl rfl rfl (by decide +kernel) ⟨Nat.le_of_ble_eq_true rfl, Nat.le_of_ble_eq_true rfl⟩) rfl rfl (Nat.le_of_ble_eq_true rfl) dX6_setSupply_4 (fun r1 τ1 hJ => ?_)
  obtain ⟨hJt, hJf⟩ := hJ
  refine V_if_eq C (tgt := 33) dX6_setSupply_7 rfl (fun hc2 => ?_) (fun hc2 => ?_)
  · have hJ := hJt hc2; clear hJt hJf
    refine V_bipush (v := (-102)) C dX6_setSupply_33 cb_m102 ?_
    exact V_iret C hr hlocks dX6_setSupply_35 hJ
  · have hJ := hJf hc2; clear hJt hJf
    refine V_iload_n C dX6_setSupply_10 2 rfl ?_
    refine V_iload_n C dX6_setSupply_11 1 rfl ?_
    refine V_iconst (v := 1) C dX6_setSupply_12 ci_1 ?_
    refine V_iadd C dX6_setSupply_13 ?_
    refine V_bipush (v := 24) C dX6_setSupply_14 cb_24 ?_
    refine V_cSi (st := []) C (M_X6_in l D tc ad A x2 (x1 + 1) 24 hJ) (va_cwS 3 C.1.2.2.2.2 gX6_setSupply_X6_in rfl rfl rfl (by decide +kernel) ⟨Nat.le_of_ble_eq_true rfl, Nat.le_of_ble_eq_true rfl⟩) rfl rfl (Nat.le_of_ble_eq_true rfl) dX6_setSupply_16 (fun r3 τ3 hJ => ?_)
    obtain ⟨hJt, hJf⟩ := hJ
    refine V_if_eq C (tgt := 33) dX6_setSupply_19 rfl (fun hc4 => ?_) (fun hc4 => ?_)
    · have hJ := hJt hc4; clear hJt hJf
      refine V_bipush (v := (-102)) C dX6_setSupply_33 cb_m102 ?_
      exact V_iret C hr hlocks dX6_setSupply_35 hJ
    · have hJ := hJf hc4; clear hJt hJf
      refine V_iload_n C dX6_setSupply_22 3 rfl ?_
      refine V_iconst (v := 0) C dX6_setSupply_23 ci_0 ?_
      refine V_sipush (v := 200) C dX6_setSupply_24 cs_200 ?_
      refine V_cSi (st := []) C (M_X6_in l D tc ad A x3 0 200 hJ) (va_cwS 3 C.1.2.2.2.2 gX6_setSupply_X6_in rfl rfl rfl (by decide +kernel) ⟨Nat.le_of_ble_eq_true rfl, Nat.le_of_ble_eq_true rfl⟩) rfl rfl (Nat.le_of_ble_eq_true rfl) dX6_setSupply_27 (fun r5 τ5 hJ => ?_)
      obtain ⟨hJt, hJf⟩ := hJ
      refine V_if_ne C (tgt := 36) dX6_setSupply_30 rfl (fun hc6 => ?_) (fun hc6 => ?_)
      · have hJ := hJt hc6; clear hJt hJf
        refine V_aload_n C dX6_setSupply_36 0 rfl ?_
        refine V_iload_n C dX6_setSupply_37 1 rfl ?_
        refine V_iload_n C dX6_setSupply_38 2 rfl ?_
        refine V_iload_n C dX6_setSupply_39 3 rfl ?_
        refine V_cVi (st := []) (ci := 6) C okM_0 (M_X6_supplies l D tc ad A x1 x2 x3 hJ) (cwV 3 C.1.2.2.2.2 gX6_setSupply_X6_supplies rfl rfl rfl (by decide +kernel) ⟨Nat.le_of_ble_eq_true rfl, Nat.le_of_ble_eq_true rfl⟩) rfl rfl rfl rfl (Nat.le_of_ble_eq_true rfl) dX6_setSupply_40 (fun r7 τ7 hJ => ?_)
        exact V_iret C hr hlocks dX6_setSupply_43 hJ
      · have hJ := hJf hc6; clear hJt hJf
        refine V_bipush (v := (-102)) C dX6_setSupply_33 cb_m102 ?_
        exact V_iret C hr hlocks dX6_setSupply_35 hJ
set_option maxHeartbeats 4000000 in
set_option maxRecDepth 100000 in
theorem M_X6_setTurn (l : Launch) (D : va_G) (tc : Nat → ClassId) (ad : Oid → Nat) (A : Nat → Prop) (x1 : Int32) (x2 : Int32) {σ : Mem} {Qr : Int32 → Mem → Prop} (hJ : J_X6_setTurn x1 x2 σ Qr) : Met l yX6_setTurn wsX6_setTurn ({ frames := 2, cells := 0, slots := 0, locals := 43 }) (va_Pc [.ref (ad (0, 0, 0)), .int x1, .int x2] (WdI D vwCl (tysX tc) idsM ad (ceM tc ad) A σ)) (va_Qi (fun (r : Int32) (u : Mem) => Qr r u) (WdO D vwCl idsM ad (ceM tc ad) A) A) 0 0 A := by
  refine V_meti (cc := cX6_setTurn) (nL := 3) (ret := (some .int)) (own := RX6) rfl (plainFor_of_name (by decide)) rfl rfl (Nat.le_of_ble_eq_true rfl) ?_
  intro p e s m below meth c C hr hlocks
  refine V_sub (lv' := [(0, .ref (ad (0, 0, 0))), (1, .int x1), (2, .int x2)]) [0, 1, 2] rfl ?_
  unfold J_X6_setTurn at hJ
  refine V_aload_n C dX6_setTurn_0 0 rfl ?_
  refine V_iload_n C dX6_setTurn_1 1 rfl ?_
  refine V_cVi (st := []) (ci := 6) C okM_0 (M_X6_isUser l D tc ad A x1 hJ) (cwV 1 C.1.2.2.2.2 gX6_setTurn_X6_isUser rfl rfl rfl (by decide +kernel) ⟨Nat.le_of_ble_eq_true rfl, Nat.le_of_ble_eq_true rfl⟩) rfl rfl rfl rfl (Nat.le_of_ble_eq_true rfl) dX6_setTurn_2 (fun r1 τ1 hJ => ?_)
  obtain ⟨hJt, hJf⟩ := hJ
  refine V_if_ne C (tgt := 11) dX6_setTurn_5 rfl (fun hc2 => ?_) (fun hc2 => ?_)
  · have hJ := hJt hc2; clear hJt hJf
    refine V_iload_n C dX6_setTurn_11 2 rfl ?_
    refine V_iconst (v := 0) C dX6_setTurn_12 ci_0 ?_
    refine V_bipush (v := 24) C dX6_setTurn_13 cb_24 ?_
    refine V_cSi (st := []) C (M_X6_in l D tc ad A x2 0 24 hJ) (va_cwS 3 C.1.2.2.2.2 gX6_setTurn_X6_in rfl rfl rfl (by decide +kernel) ⟨Nat.le_of_ble_eq_true rfl, Nat.le_of_ble_eq_true rfl⟩) rfl rfl (Nat.le_of_ble_eq_true rfl) dX6_setTurn_15 (fun r3 τ3 hJ => ?_)
    obtain ⟨hJt, hJf⟩ := hJ
    refine V_if_eq C (tgt := 34) dX6_setTurn_18 rfl (fun hc4 => ?_) (fun hc4 => ?_)
    · have hJ := hJt hc4; clear hJt hJf
      refine V_bipush (v := (-102)) C dX6_setTurn_34 cb_m102 ?_
      exact V_iret C hr hlocks dX6_setTurn_36 hJ
    · have hJ := hJf hc4; clear hJt hJf
      refine V_aload_n C dX6_setTurn_21 0 rfl ?_
      refine V_sipush (v := 178) C dX6_setTurn_22 cs_178 ?_
      refine V_iload_n C dX6_setTurn_25 1 rfl ?_
      refine V_iadd C dX6_setTurn_26 ?_
      refine V_iload_n C dX6_setTurn_27 2 rfl ?_
      refine V_cVi (st := []) (ci := 6) C okM_0 (M_X6_puts l D tc ad A (178 + x1) x2 hJ) (cwV 2 C.1.2.2.2.2 gX6_setTurn_X6_puts rfl rfl rfl (by decide +kernel) ⟨Nat.le_of_ble_eq_true rfl, Nat.le_of_ble_eq_true rfl⟩) rfl rfl rfl rfl (Nat.le_of_ble_eq_true rfl) dX6_setTurn_28 (fun r5 τ5 hJ => ?_)
      refine V_goto C (tgt := 36) dX6_setTurn_31 rfl ?_
      exact V_iret C hr hlocks dX6_setTurn_36 hJ
  · have hJ := hJf hc2; clear hJt hJf
    refine V_bipush (v := (-101)) C dX6_setTurn_8 cb_m101 ?_
    exact V_iret C hr hlocks dX6_setTurn_10 hJ
set_option maxHeartbeats 4000000 in
set_option maxRecDepth 100000 in
theorem M_X6_settle (l : Launch) (D : va_G) (tc : Nat → ClassId) (ad : Oid → Nat) (A : Nat → Prop) {σ : Mem} {Qr : Int32 → Mem → Prop} (hJ : J_X6_settle σ Qr) : Met l yX6_settle wsX6_settle ({ frames := 6, cells := 0, slots := 0, locals := 137 }) (va_Pc [.ref (ad (0, 0, 0))] (WdI D vwCl (tysX tc) idsM ad (ceM tc ad) A σ)) (va_Qi (fun (r : Int32) (u : Mem) => Qr r u) (WdO D vwCl idsM ad (ceM tc ad) A) A) 0 0 A := by
  refine V_meti (cc := cX6_settle) (nL := 5) (ret := (some .int)) (own := RX6) rfl (plainFor_of_name (by decide)) rfl rfl (Nat.le_of_ble_eq_true rfl) ?_
  intro p e s m below meth c C hr hlocks
  refine V_sub (lv' := [(0, .ref (ad (0, 0, 0)))]) [0] rfl ?_
  have f7 : Cond.fieldLink RX6 7 (TX6 0).1 (TX6 0).2.1 (TX6 0).2.2.1 ∈ wsX6_settle := List.mem_of_getElem? (i := 1) rfl
  have uX6 : ∀ w ∈ u_ws RX6 TX6 12, w ∈ wsX6_settle := by decide +kernel
  unfold J_X6_settle at hJ
  refine V_iconst (v := 0) C dX6_settle_0 ci_0 ?_
  refine V_istore_n (lv' := [(1, .int 0), (0, .ref (ad (0, 0, 0)))]) C dX6_settle_1 (by decide) rfl ?_
  refine V_iconst (v := 0) C dX6_settle_2 ci_0 ?_
  refine V_istore_n (lv' := [(2, .int 0), (1, .int 0), (0, .ref (ad (0, 0, 0)))]) C dX6_settle_3 (by decide) rfl ?_
  refine V_sub (lv' := [(0, .ref (ad (0, 0, 0))), (1, .int 0), (2, .int 0)]) [2, 1, 0] rfl ?_
  obtain ⟨I4, μ4, hI4, hst4⟩ := hJ
  have L4 : ∀ (n : Nat) (x1_1 : Int32) (x2_1 : Int32) (τ1 : Mem), μ4 x1_1 x2_1 τ1 < n → I4 x1_1 x2_1 τ1 → VV p l e (headSpec wsX6_settle ({ frames := 6, cells := 0, slots := 0, locals := 137 })).room s m ([.ref (ad (0, 0, 0))] : List Value).toArray below meth c D vwCl idsM ad (ceM tc ad) A (MQ below (va_Qi (fun (r : Int32) (u : Mem) => Qr r u) (WdO D vwCl idsM ad (ceM tc ad) A) A) ([.ref (ad (0, 0, 0))] : List Value).toArray s 0 0 A) 5 4 [(0, .ref (ad (0, 0, 0))), (1, .int x1_1), (2, .int x2_1)] [] τ1 := by
    intro n
    induction n with
    | zero => intro x1_1 x2_1 τ1 hμ _; exact absurd hμ (Nat.not_lt_zero _)
    | succ n ihn =>
      intro x1_1 x2_1 τ1 hμ4 hJ
      have ih4 := ihn
      replace hJ := hst4 x1_1 x2_1 τ1 hJ
      refine V_iload_n C dX6_settle_4 2 rfl ?_
      refine V_aload_n C dX6_settle_5 0 rfl ?_
      refine V_get (ci := 6) C okM_0 uX6 rfl 0 (Nat.le_of_ble_eq_true rfl) rfl rfl f7 dX6_settle_6 ?_
      refine V_iconst (v := 2) C dX6_settle_9 ci_2 ?_
      refine V_iald C okM_1 0 rfl rfl ix_2 vpc_2_214 dX6_settle_10 ?_
      obtain ⟨hJt, hJf⟩ := hJ
      refine V_icmp_ge C (tgt := 77) dX6_settle_11 rfl (fun hc2 => ?_) (fun hc2 => ?_)
      · have hJ := hJt hc2; clear hJt hJf
        refine V_iload_n C dX6_settle_77 1 rfl ?_
        exact V_iret C hr hlocks dX6_settle_78 hJ
      · have hJ := hJf hc2; clear hJt hJf
        refine V_aload_n C dX6_settle_14 0 rfl ?_
        refine V_get (ci := 6) C okM_0 uX6 rfl 0 (Nat.le_of_ble_eq_true rfl) rfl rfl f7 dX6_settle_15 ?_
        refine V_iconst (v := 2) C dX6_settle_18 ci_2 ?_
        refine V_iald C okM_1 0 rfl rfl ix_2 vpc_2_214 dX6_settle_19 ?_
        refine V_iconst (v := 1) C dX6_settle_20 ci_1 ?_
        refine V_isub C dX6_settle_21 ?_
        refine V_topi (fun x3_3 hx3_3 => ?_)
        replace hJ := hJ x3_3 hx3_3
        refine V_istore_n (lv' := [(3, .int x3_3), (0, .ref (ad (0, 0, 0))), (1, .int x1_1), (2, .int x2_1)]) C dX6_settle_22 (by decide) rfl ?_
        refine V_sub (lv' := [(0, .ref (ad (0, 0, 0))), (1, .int x1_1), (2, .int x2_1), (3, .int x3_3)]) [1, 2, 3, 0] rfl ?_
        obtain ⟨I23, μ23, hI23, hst23⟩ := hJ
        have L23 : ∀ (n : Nat) (x1_4 : Int32) (x3_4 : Int32) (τ4 : Mem), μ23 x1_4 x3_4 τ4 < n → I23 x1_4 x3_4 τ4 → VV p l e (headSpec wsX6_settle ({ frames := 6, cells := 0, slots := 0, locals := 137 })).room s m ([.ref (ad (0, 0, 0))] : List Value).toArray below meth c D vwCl idsM ad (ceM tc ad) A (MQ below (va_Qi (fun (r : Int32) (u : Mem) => Qr r u) (WdO D vwCl idsM ad (ceM tc ad) A) A) ([.ref (ad (0, 0, 0))] : List Value).toArray s 0 0 A) 5 23 [(0, .ref (ad (0, 0, 0))), (1, .int x1_4), (2, .int x2_1), (3, .int x3_4)] [] τ4 := by
          intro n
          induction n with
          | zero => intro x1_4 x3_4 τ4 hμ _; exact absurd hμ (Nat.not_lt_zero _)
          | succ n ihn =>
            intro x1_4 x3_4 τ4 hμ23 hJ
            have ih23 := ihn
            replace hJ := hst23 x1_4 x3_4 τ4 hJ
            refine V_iload_n C dX6_settle_23 3 rfl ?_
            refine V_iload_n C dX6_settle_24 2 rfl ?_
            obtain ⟨hJt, hJf⟩ := hJ
            refine V_icmp_le C (tgt := 71) dX6_settle_25 rfl (fun hc5 => ?_) (fun hc5 => ?_)
            · have hJ := hJt hc5; clear hJt hJf
              obtain ⟨x2_6, hx2_6⟩ : ∃ y : Int32, y = x2_1 + 1 := ⟨_, rfl⟩
              replace hJ := hJ x2_6 hx2_6
              refine V_iinc (v := x2_6) (lv' := [(2, .int x2_6), (0, .ref (ad (0, 0, 0))), (1, .int x1_4), (3, .int x3_4)]) C dX6_settle_71 2 rfl (by rw [hx2_6]; exact congrArg _ ci_1) (by decide) rfl ?_
              refine V_goto C (tgt := 4) dX6_settle_74 rfl ?_
              refine V_sub (lv' := [(0, .ref (ad (0, 0, 0))), (1, .int x1_4), (2, .int x2_6)]) [1, 2, 0] rfl ?_
              exact ih4 x1_4 x2_6 τ4 (Nat.lt_of_lt_of_le hJ.2 (Nat.le_of_lt_succ hμ4)) hJ.1
            · have hJ := hJf hc5; clear hJt hJf
              refine V_aload_n C dX6_settle_28 0 rfl ?_
              refine V_iload_n C dX6_settle_29 3 rfl ?_
              refine V_cVi (st := []) (ci := 6) C okM_0 (M_X6_ranked l D tc ad A x3_4 hJ) (cwV 1 C.1.2.2.2.2 gX6_settle_X6_ranked rfl rfl rfl (by decide +kernel) ⟨Nat.le_of_ble_eq_true rfl, Nat.le_of_ble_eq_true rfl⟩) rfl rfl rfl rfl (Nat.le_of_ble_eq_true rfl) dX6_settle_30 (fun r7 τ7 hJ => ?_)
              refine V_istore (lv' := [(4, .int r7), (0, .ref (ad (0, 0, 0))), (1, .int x1_4), (2, .int x2_1), (3, .int x3_4)]) C dX6_settle_33 (by decide) rfl ?_
              refine V_aload_n C dX6_settle_35 1 rfl ?_
              refine V_aload_n C dX6_settle_36 1 rfl ?_
              refine V_iload_n C dX6_settle_37 3 rfl ?_
              refine V_cVi (st := [.ref (ad (0, 0, 0))]) (ci := 6) C okM_0 (M_X6_ranked l D tc ad A x2_1 hJ) (cwV 1 C.1.2.2.2.2 gX6_settle_X6_ranked rfl rfl rfl (by decide +kernel) ⟨Nat.le_of_ble_eq_true rfl, Nat.le_of_ble_eq_true rfl⟩) rfl rfl rfl rfl (Nat.le_of_ble_eq_true rfl) dX6_settle_38 (fun r8 τ8 hJ => ?_)
              refine V_iload C dX6_settle_41 0 rfl ?_
              refine V_cVi (st := []) (ci := 6) C okM_0 (M_X6_judged l D tc ad A r8 r7 hJ) (cwV 2 C.1.2.2.2.2 gX6_settle_X6_judged rfl rfl rfl (by decide +kernel) ⟨Nat.le_of_ble_eq_true rfl, Nat.le_of_ble_eq_true rfl⟩) rfl rfl rfl rfl (Nat.le_of_ble_eq_true rfl) dX6_settle_43 (fun r9 τ9 hJ => ?_)
              refine V_iconst (v := 2) C dX6_settle_46 ci_2 ?_
              obtain ⟨hJt, hJf⟩ := hJ
              refine V_icmp_ne C (tgt := 65) dX6_settle_47 rfl (fun hc10 => ?_) (fun hc10 => ?_)
              · have hJ := hJt hc10; clear hJt hJf
                obtain ⟨x3_11, hx3_11⟩ : ∃ y : Int32, y = x3_4 + (-1) := ⟨_, rfl⟩
                replace hJ := hJ x3_11 hx3_11
                refine V_iinc (v := x3_11) (lv' := [(3, .int x3_11), (4, .int r7), (0, .ref (ad (0, 0, 0))), (1, .int x1_4), (2, .int x2_1)]) C dX6_settle_65 4 rfl (by rw [hx3_11]; exact congrArg _ ci_m1) (by decide) rfl ?_
                refine V_goto C (tgt := 23) dX6_settle_68 rfl ?_
                refine V_sub (lv' := [(0, .ref (ad (0, 0, 0))), (1, .int x1_4), (2, .int x2_1), (3, .int x3_11)]) [2, 3, 4, 0] rfl ?_
                exact ih23 x1_4 x3_11 τ9 (Nat.lt_of_lt_of_le hJ.2 (Nat.le_of_lt_succ hμ23)) hJ.1
              · have hJ := hJf hc10; clear hJt hJf
                refine V_aload_n C dX6_settle_50 1 rfl ?_
                refine V_get (ci := 6) C okM_0 uX6 rfl 0 (Nat.le_of_ble_eq_true rfl) rfl rfl f7 dX6_settle_51 ?_
                refine V_sipush (v := 202) C dX6_settle_54 cs_202 ?_
                refine V_iload C dX6_settle_57 0 rfl ?_
                refine V_iadd C dX6_settle_59 ?_
                refine V_iconst (v := 1) C dX6_settle_60 ci_1 ?_
                obtain ⟨hv12, hJ⟩ := hJ
                refine V_iast C okM_1 0 rfl (fun _ => rfl) rfl hv12 dX6_settle_61 (fun τ13 hτ13 => ?_)
                replace hJ := hJ τ13 hτ13
                obtain ⟨x1_14, hx1_14⟩ : ∃ y : Int32, y = x1_4 + 1 := ⟨_, rfl⟩
                replace hJ := hJ x1_14 hx1_14
                refine V_iinc (v := x1_14) (lv' := [(1, .int x1_14), (4, .int r7), (0, .ref (ad (0, 0, 0))), (2, .int x2_1), (3, .int x3_4)]) C dX6_settle_62 2 rfl (by rw [hx1_14]; exact congrArg _ ci_1) (by decide) rfl ?_
                obtain ⟨x3_15, hx3_15⟩ : ∃ y : Int32, y = x3_4 + (-1) := ⟨_, rfl⟩
                replace hJ := hJ x3_15 hx3_15
                refine V_iinc (v := x3_15) (lv' := [(3, .int x3_15), (1, .int x1_14), (4, .int r7), (0, .ref (ad (0, 0, 0))), (2, .int x2_1)]) C dX6_settle_65 4 rfl (by rw [hx3_15]; exact congrArg _ ci_m1) (by decide) rfl ?_
                refine V_goto C (tgt := 23) dX6_settle_68 rfl ?_
                refine V_sub (lv' := [(0, .ref (ad (0, 0, 0))), (1, .int x1_14), (2, .int x2_1), (3, .int x3_15)]) [3, 1, 4, 0] rfl ?_
                exact ih23 x1_14 x3_15 τ13 (Nat.lt_of_lt_of_le hJ.2 (Nat.le_of_lt_succ hμ23)) hJ.1
        exact L23 _ x1_1 x3_3 τ1 (Nat.lt_succ_self _) hI23
  exact L4 _ 0 0 σ (Nat.lt_succ_self _) hI4
set_option maxHeartbeats 4000000 in
set_option maxRecDepth 100000 in
theorem M_X6_time (l : Launch) (D : va_G) (tc : Nat → ClassId) (ad : Oid → Nat) (A : Nat → Prop) {σ : Mem} {Qr : Int32 → Mem → Prop} (hJ : J_X6_time σ Qr) : Met l yX6_time wsX6_time ({ frames := 0, cells := 0, slots := 0, locals := 0 }) (va_Pc [.ref (ad (0, 0, 0))] (WdI D vwCl (tysX tc) idsM ad (ceM tc ad) A σ)) (va_Qi (fun (r : Int32) (u : Mem) => Qr r u) (WdO D vwCl idsM ad (ceM tc ad) A) A) 0 0 A := by
  refine V_meti (cc := cX6_time) (nL := 1) (ret := (some .int)) (own := RX6) rfl (plainFor_of_name (by decide)) rfl rfl (Nat.le_of_ble_eq_true rfl) ?_
  intro p e s m below meth c C hr hlocks
  refine V_sub (lv' := [(0, .ref (ad (0, 0, 0)))]) [0] rfl ?_
  have f7 : Cond.fieldLink RX6 7 (TX6 0).1 (TX6 0).2.1 (TX6 0).2.2.1 ∈ wsX6_time := List.mem_of_getElem? (i := 1) rfl
  have uX6 : ∀ w ∈ u_ws RX6 TX6 12, w ∈ wsX6_time := by decide +kernel
  unfold J_X6_time at hJ
  refine V_aload_n C dX6_time_0 0 rfl ?_
  refine V_get (ci := 6) C okM_0 uX6 rfl 0 (Nat.le_of_ble_eq_true rfl) rfl rfl f7 dX6_time_1 ?_
  refine V_iconst (v := 0) C dX6_time_4 ci_0 ?_
  refine V_iald C okM_1 0 rfl rfl ix_0 vpc_0_214 dX6_time_5 ?_
  exact V_iret C hr hlocks dX6_time_6 hJ
set_option maxHeartbeats 4000000 in
set_option maxRecDepth 100000 in
theorem M_X6_usefulGate (l : Launch) (D : va_G) (tc : Nat → ClassId) (ad : Oid → Nat) (A : Nat → Prop) (x1 : Int32) {σ : Mem} {Qr : Int32 → Mem → Prop} (hJ : J_X6_usefulGate x1 σ Qr) : Met l yX6_usefulGate wsX6_usefulGate ({ frames := 4, cells := 0, slots := 0, locals := 89 }) (va_Pc [.ref (ad (0, 0, 0)), .int x1] (WdI D vwCl (tysX tc) idsM ad (ceM tc ad) A σ)) (va_Qi (fun (r : Int32) (u : Mem) => Qr r u) (WdO D vwCl idsM ad (ceM tc ad) A) A) 0 0 A := by
  refine V_meti (cc := cX6_usefulGate) (nL := 6) (ret := (some .int)) (own := RX6) rfl (plainFor_of_name (by decide)) rfl rfl (Nat.le_of_ble_eq_true rfl) ?_
  intro p e s m below meth c C hr hlocks
  refine V_sub (lv' := [(0, .ref (ad (0, 0, 0))), (1, .int x1)]) [0, 1] rfl ?_
  have f7 : Cond.fieldLink RX6 7 (TX6 0).1 (TX6 0).2.1 (TX6 0).2.2.1 ∈ wsX6_usefulGate := List.mem_of_getElem? (i := 1) rfl
  have uX6 : ∀ w ∈ u_ws RX6 TX6 12, w ∈ wsX6_usefulGate := by decide +kernel
  unfold J_X6_usefulGate at hJ
  refine V_aload_n C dX6_usefulGate_0 0 rfl ?_
  refine V_iload_n C dX6_usefulGate_1 1 rfl ?_
  refine V_cVi (st := []) (ci := 6) C okM_0 (M_X6_isDitch l D tc ad A x1 hJ) (cwV 1 C.1.2.2.2.2 gX6_usefulGate_X6_isDitch rfl rfl rfl (by decide +kernel) ⟨Nat.le_of_ble_eq_true rfl, Nat.le_of_ble_eq_true rfl⟩) rfl rfl rfl rfl (Nat.le_of_ble_eq_true rfl) dX6_usefulGate_2 (fun r1 τ1 hJ => ?_)
  obtain ⟨hJt, hJf⟩ := hJ
  refine V_if_ne C (tgt := 11) dX6_usefulGate_5 rfl (fun hc2 => ?_) (fun hc2 => ?_)
  · have hJ := hJt hc2; clear hJt hJf
    refine V_aload_n C dX6_usefulGate_11 0 rfl ?_
    refine V_get (ci := 6) C okM_0 uX6 rfl 0 (Nat.le_of_ble_eq_true rfl) rfl rfl f7 dX6_usefulGate_12 ?_
    refine V_bipush (v := 50) C dX6_usefulGate_15 cb_50 ?_
    refine V_iload_n C dX6_usefulGate_17 1 rfl ?_
    refine V_iadd C dX6_usefulGate_18 ?_
    obtain ⟨hv3, hJ⟩ := hJ
    refine V_iald C okM_1 0 rfl rfl rfl hv3 dX6_usefulGate_19 ?_
    refine V_topi (fun x2_4 hx2_4 => ?_)
    replace hJ := hJ x2_4 hx2_4
    refine V_istore_n (lv' := [(2, .int x2_4), (0, .ref (ad (0, 0, 0))), (1, .int x1)]) C dX6_usefulGate_20 (by decide) rfl ?_
    refine V_aload_n C dX6_usefulGate_21 1 rfl ?_
    refine V_get (ci := 6) C okM_0 uX6 rfl 0 (Nat.le_of_ble_eq_true rfl) rfl rfl f7 dX6_usefulGate_22 ?_
    refine V_bipush (v := 50) C dX6_usefulGate_25 cb_50 ?_
    refine V_iload_n C dX6_usefulGate_27 2 rfl ?_
    refine V_iadd C dX6_usefulGate_28 ?_
    refine V_sipush (v := 200) C dX6_usefulGate_29 cs_200 ?_
    obtain ⟨hv5, hJ⟩ := hJ
    refine V_iast C okM_1 0 rfl (fun _ => rfl) rfl hv5 dX6_usefulGate_32 (fun τ6 hτ6 => ?_)
    replace hJ := hJ τ6 hτ6
    refine V_aload_n C dX6_usefulGate_33 1 rfl ?_
    refine V_cVv (st := []) (ci := 6) C okM_0 (M_X6_distributes l D tc ad A  hJ) (cwV 0 C.1.2.2.2.2 gX6_usefulGate_X6_distributes rfl rfl rfl (by decide +kernel) ⟨Nat.le_of_ble_eq_true rfl, Nat.le_of_ble_eq_true rfl⟩) rfl rfl rfl rfl (Nat.le_of_ble_eq_true rfl) dX6_usefulGate_34 (fun τ7 hJ => ?_)
    refine V_aload_n C dX6_usefulGate_37 1 rfl ?_
    refine V_cVi (st := []) (ci := 6) C okM_0 (M_X6_all l D tc ad A  hJ) (cwV 0 C.1.2.2.2.2 gX6_usefulGate_X6_all rfl rfl rfl (by decide +kernel) ⟨Nat.le_of_ble_eq_true rfl, Nat.le_of_ble_eq_true rfl⟩) rfl rfl rfl rfl (Nat.le_of_ble_eq_true rfl) dX6_usefulGate_38 (fun r8 τ8 hJ => ?_)
    refine V_istore_n (lv' := [(3, .int r8), (2, .int x2_4), (0, .ref (ad (0, 0, 0))), (1, .int x1)]) C dX6_usefulGate_41 (by decide) rfl ?_
    refine V_iconst (v := 0) C dX6_usefulGate_42 ci_0 ?_
    refine V_istore (lv' := [(4, .int 0), (3, .int r8), (2, .int x2_4), (0, .ref (ad (0, 0, 0))), (1, .int x1)]) C dX6_usefulGate_43 (by decide) rfl ?_
    refine V_iconst (v := 0) C dX6_usefulGate_45 ci_0 ?_
    refine V_istore (lv' := [(5, .int 0), (4, .int 0), (3, .int r8), (2, .int x2_4), (0, .ref (ad (0, 0, 0))), (1, .int x1)]) C dX6_usefulGate_46 (by decide) rfl ?_
    refine V_sub (lv' := [(0, .ref (ad (0, 0, 0))), (1, .int x1), (2, .int x2_4), (3, .int r8), (4, .int 0), (5, .int 0)]) [4, 5, 3, 2, 1, 0] rfl ?_
    obtain ⟨I48, μ48, hI48, hst48⟩ := hJ
    have L48 : ∀ (n : Nat) (x4_9 : Int32) (x5_9 : Int32) (τ9 : Mem), μ48 x4_9 x5_9 τ9 < n → I48 x4_9 x5_9 τ9 → VV p l e (headSpec wsX6_usefulGate ({ frames := 4, cells := 0, slots := 0, locals := 89 })).room s m ([.ref (ad (0, 0, 0)), .int x1] : List Value).toArray below meth c D vwCl idsM ad (ceM tc ad) A (MQ below (va_Qi (fun (r : Int32) (u : Mem) => Qr r u) (WdO D vwCl idsM ad (ceM tc ad) A) A) ([.ref (ad (0, 0, 0)), .int x1] : List Value).toArray s 0 0 A) 6 48 [(0, .ref (ad (0, 0, 0))), (1, .int x1), (2, .int x2_4), (3, .int r8), (4, .int x4_9), (5, .int x5_9)] [] τ9 := by
      intro n
      induction n with
      | zero => intro x4_9 x5_9 τ9 hμ _; exact absurd hμ (Nat.not_lt_zero _)
      | succ n ihn =>
        intro x4_9 x5_9 τ9 hμ48 hJ
        have ih48 := ihn
        replace hJ := hst48 x4_9 x5_9 τ9 hJ
        refine V_iload C dX6_usefulGate_48 5 rfl ?_
        obtain ⟨hJt, hJf⟩ := hJ
        refine V_if_ne C (tgt := 89) dX6_usefulGate_50 rfl (fun hc10 => ?_) (fun hc10 => ?_)
        · have hJ := hJt hc10; clear hJt hJf
          refine V_aload_n C dX6_usefulGate_89 0 rfl ?_
          refine V_get (ci := 6) C okM_0 uX6 rfl 0 (Nat.le_of_ble_eq_true rfl) rfl rfl f7 dX6_usefulGate_90 ?_
          refine V_bipush (v := 50) C dX6_usefulGate_93 cb_50 ?_
          refine V_iload_n C dX6_usefulGate_95 1 rfl ?_
          refine V_iadd C dX6_usefulGate_96 ?_
          refine V_iload_n C dX6_usefulGate_97 2 rfl ?_
          obtain ⟨hv11, hJ⟩ := hJ
          refine V_iast C okM_1 0 rfl (fun _ => rfl) rfl hv11 dX6_usefulGate_98 (fun τ12 hτ12 => ?_)
          replace hJ := hJ τ12 hτ12
          refine V_iload C dX6_usefulGate_99 4 rfl ?_
          exact V_iret C hr hlocks dX6_usefulGate_101 hJ
        · have hJ := hJf hc10; clear hJt hJf
          obtain ⟨x4_13, hx4_13⟩ : ∃ y : Int32, y = x4_9 + 1 := ⟨_, rfl⟩
          replace hJ := hJ x4_13 hx4_13
          refine V_iinc (v := x4_13) (lv' := [(4, .int x4_13), (0, .ref (ad (0, 0, 0))), (1, .int x1), (2, .int x2_4), (3, .int r8), (5, .int x5_9)]) C dX6_usefulGate_53 4 rfl (by rw [hx4_13]; exact congrArg _ ci_1) (by decide) rfl ?_
          refine V_aload_n C dX6_usefulGate_56 1 rfl ?_
          refine V_get (ci := 6) C okM_0 uX6 rfl 0 (Nat.le_of_ble_eq_true rfl) rfl rfl f7 dX6_usefulGate_57 ?_
          refine V_bipush (v := 50) C dX6_usefulGate_60 cb_50 ?_
          refine V_iload_n C dX6_usefulGate_62 2 rfl ?_
          refine V_iadd C dX6_usefulGate_63 ?_
          refine V_iload C dX6_usefulGate_64 0 rfl ?_
          obtain ⟨hv14, hJ⟩ := hJ
          refine V_iast C okM_1 0 rfl (fun _ => rfl) rfl hv14 dX6_usefulGate_66 (fun τ15 hτ15 => ?_)
          replace hJ := hJ τ15 hτ15
          refine V_aload_n C dX6_usefulGate_67 1 rfl ?_
          refine V_cVv (st := []) (ci := 6) C okM_0 (M_X6_distributes l D tc ad A  hJ) (cwV 0 C.1.2.2.2.2 gX6_usefulGate_X6_distributes rfl rfl rfl (by decide +kernel) ⟨Nat.le_of_ble_eq_true rfl, Nat.le_of_ble_eq_true rfl⟩) rfl rfl rfl rfl (Nat.le_of_ble_eq_true rfl) dX6_usefulGate_68 (fun τ16 hJ => ?_)
          refine V_aload_n C dX6_usefulGate_71 1 rfl ?_
          refine V_cVi (st := []) (ci := 6) C okM_0 (M_X6_all l D tc ad A  hJ) (cwV 0 C.1.2.2.2.2 gX6_usefulGate_X6_all rfl rfl rfl (by decide +kernel) ⟨Nat.le_of_ble_eq_true rfl, Nat.le_of_ble_eq_true rfl⟩) rfl rfl rfl rfl (Nat.le_of_ble_eq_true rfl) dX6_usefulGate_72 (fun r17 τ17 hJ => ?_)
          refine V_iload_n C dX6_usefulGate_75 4 rfl ?_
          obtain ⟨hJt, hJf⟩ := hJ
          refine V_icmp_ne C (tgt := 83) dX6_usefulGate_76 rfl (fun hc18 => ?_) (fun hc18 => ?_)
          · have hJ := hJt hc18; clear hJt hJf
            refine V_iconst (v := 0) C dX6_usefulGate_83 ci_0 ?_
            refine V_istore (lv' := [(5, .int 0), (4, .int x4_13), (0, .ref (ad (0, 0, 0))), (1, .int x1), (2, .int x2_4), (3, .int r8)]) C dX6_usefulGate_84 (by decide) rfl ?_
            refine V_goto C (tgt := 48) dX6_usefulGate_86 rfl ?_
            refine V_sub (lv' := [(0, .ref (ad (0, 0, 0))), (1, .int x1), (2, .int x2_4), (3, .int r8), (4, .int x4_13), (5, .int 0)]) [2, 3, 4, 5, 1, 0] rfl ?_
            exact ih48 x4_13 0 τ17 (Nat.lt_of_lt_of_le hJ.2 (Nat.le_of_lt_succ hμ48)) hJ.1
          · have hJ := hJf hc18; clear hJt hJf
            refine V_iconst (v := 1) C dX6_usefulGate_79 ci_1 ?_
            refine V_goto C (tgt := 84) dX6_usefulGate_80 rfl ?_
            refine V_istore (lv' := [(5, .int 1), (4, .int x4_13), (0, .ref (ad (0, 0, 0))), (1, .int x1), (2, .int x2_4), (3, .int r8)]) C dX6_usefulGate_84 (by decide) rfl ?_
            refine V_goto C (tgt := 48) dX6_usefulGate_86 rfl ?_
            refine V_sub (lv' := [(0, .ref (ad (0, 0, 0))), (1, .int x1), (2, .int x2_4), (3, .int r8), (4, .int x4_13), (5, .int 1)]) [2, 3, 4, 5, 1, 0] rfl ?_
            exact ih48 x4_13 1 τ17 (Nat.lt_of_lt_of_le hJ.2 (Nat.le_of_lt_succ hμ48)) hJ.1
    exact L48 _ 0 0 τ8 (Nat.lt_succ_self _) hI48
  · have hJ := hJf hc2; clear hJt hJf
    refine V_bipush (v := (-101)) C dX6_usefulGate_8 cb_m101 ?_
    exact V_iret C hr hlocks dX6_usefulGate_10 hJ
set_option maxHeartbeats 4000000 in
set_option maxRecDepth 100000 in
theorem M_X6_userByAge (l : Launch) (D : va_G) (tc : Nat → ClassId) (ad : Oid → Nat) (A : Nat → Prop) (x1 : Int32) {σ : Mem} {Qr : Int32 → Mem → Prop} (hJ : J_X6_userByAge x1 σ Qr) : Met l yX6_userByAge wsX6_userByAge ({ frames := 2, cells := 0, slots := 0, locals := 46 }) (va_Pc [.ref (ad (0, 0, 0)), .int x1] (WdI D vwCl (tysX tc) idsM ad (ceM tc ad) A σ)) (va_Qi (fun (r : Int32) (u : Mem) => Qr r u) (WdO D vwCl idsM ad (ceM tc ad) A) A) 0 0 A := by
  refine V_meti (cc := cX6_userByAge) (nL := 2) (ret := (some .int)) (own := RX6) rfl (plainFor_of_name (by decide)) rfl rfl (Nat.le_of_ble_eq_true rfl) ?_
  intro p e s m below meth c C hr hlocks
  refine V_sub (lv' := [(0, .ref (ad (0, 0, 0))), (1, .int x1)]) [0, 1] rfl ?_
  unfold J_X6_userByAge at hJ
  refine V_aload_n C dX6_userByAge_0 0 rfl ?_
  refine V_iload_n C dX6_userByAge_1 1 rfl ?_
  refine V_cVi (st := []) (ci := 6) C okM_0 (M_X6_ranked l D tc ad A x1 hJ) (cwV 1 C.1.2.2.2.2 gX6_userByAge_X6_ranked rfl rfl rfl (by decide +kernel) ⟨Nat.le_of_ble_eq_true rfl, Nat.le_of_ble_eq_true rfl⟩) rfl rfl rfl rfl (Nat.le_of_ble_eq_true rfl) dX6_userByAge_2 (fun r1 τ1 hJ => ?_)
  exact V_iret C hr hlocks dX6_userByAge_5 hJ
set_option maxHeartbeats 4000000 in
set_option maxRecDepth 100000 in
theorem M_X6_users (l : Launch) (D : va_G) (tc : Nat → ClassId) (ad : Oid → Nat) (A : Nat → Prop) {σ : Mem} {Qr : Int32 → Mem → Prop} (hJ : J_X6_users σ Qr) : Met l yX6_users wsX6_users ({ frames := 0, cells := 0, slots := 0, locals := 0 }) (va_Pc [.ref (ad (0, 0, 0))] (WdI D vwCl (tysX tc) idsM ad (ceM tc ad) A σ)) (va_Qi (fun (r : Int32) (u : Mem) => Qr r u) (WdO D vwCl idsM ad (ceM tc ad) A) A) 0 0 A := by
  refine V_meti (cc := cX6_users) (nL := 1) (ret := (some .int)) (own := RX6) rfl (plainFor_of_name (by decide)) rfl rfl (Nat.le_of_ble_eq_true rfl) ?_
  intro p e s m below meth c C hr hlocks
  refine V_sub (lv' := [(0, .ref (ad (0, 0, 0)))]) [0] rfl ?_
  have f7 : Cond.fieldLink RX6 7 (TX6 0).1 (TX6 0).2.1 (TX6 0).2.2.1 ∈ wsX6_users := List.mem_of_getElem? (i := 1) rfl
  have uX6 : ∀ w ∈ u_ws RX6 TX6 12, w ∈ wsX6_users := by decide +kernel
  unfold J_X6_users at hJ
  refine V_aload_n C dX6_users_0 0 rfl ?_
  refine V_get (ci := 6) C okM_0 uX6 rfl 0 (Nat.le_of_ble_eq_true rfl) rfl rfl f7 dX6_users_1 ?_
  refine V_iconst (v := 2) C dX6_users_4 ci_2 ?_
  refine V_iald C okM_1 0 rfl rfl ix_2 vpc_2_214 dX6_users_5 ?_
  exact V_iret C hr hlocks dX6_users_6 hJ
set_option maxHeartbeats 4000000 in
set_option maxRecDepth 100000 in
theorem M_X6_willMiss (l : Launch) (D : va_G) (tc : Nat → ClassId) (ad : Oid → Nat) (A : Nat → Prop) (x1 : Int32) (x2 : Int32) {σ : Mem} {Qr : Int32 → Mem → Prop} (hJ : J_X6_willMiss x1 x2 σ Qr) : Met l yX6_willMiss wsX6_willMiss ({ frames := 5, cells := 0, slots := 0, locals := 115 }) (va_Pc [.ref (ad (0, 0, 0)), .int x1, .int x2] (WdI D vwCl (tysX tc) idsM ad (ceM tc ad) A σ)) (va_Qi (fun (r : Int32) (u : Mem) => Qr r u) (WdO D vwCl idsM ad (ceM tc ad) A) A) 0 0 A := by
  refine V_meti (cc := cX6_willMiss) (nL := 4) (ret := (some .int)) (own := RX6) rfl (plainFor_of_name (by decide)) rfl rfl (Nat.le_of_ble_eq_true rfl) ?_
  intro p e s m below meth c C hr hlocks
  refine V_sub (lv' := [(0, .ref (ad (0, 0, 0))), (1, .int x1), (2, .int x2)]) [0, 1, 2] rfl ?_
  have f7 : Cond.fieldLink RX6 7 (TX6 0).1 (TX6 0).2.1 (TX6 0).2.2.1 ∈ wsX6_willMiss := List.mem_of_getElem? (i := 1) rfl
  have uX6 : ∀ w ∈ u_ws RX6 TX6 12, w ∈ wsX6_willMiss := by decide +kernel
  have f13 : Cond.fieldLink RX6 13 (TX6 1).1 (TX6 1).2.1 (TX6 1).2.2.1 ∈ wsX6_willMiss := List.mem_of_getElem? (i := 2) rfl
  unfold J_X6_willMiss at hJ
  refine V_aload_n C dX6_willMiss_0 0 rfl ?_
  refine V_iload_n C dX6_willMiss_1 1 rfl ?_
  refine V_cVi (st := []) (ci := 6) C okM_0 (M_X6_isUser l D tc ad A x1 hJ) (cwV 1 C.1.2.2.2.2 gX6_willMiss_X6_isUser rfl rfl rfl (by decide +kernel) ⟨Nat.le_of_ble_eq_true rfl, Nat.le_of_ble_eq_true rfl⟩) rfl rfl rfl rfl (Nat.le_of_ble_eq_true rfl) dX6_willMiss_2 (fun r1 τ1 hJ => ?_)
  obtain ⟨hJt, hJf⟩ := hJ
  refine V_if_ne C (tgt := 11) dX6_willMiss_5 rfl (fun hc2 => ?_) (fun hc2 => ?_)
  · have hJ := hJt hc2; clear hJt hJf
    refine V_iload_n C dX6_willMiss_11 2 rfl ?_
    refine V_iconst (v := 1) C dX6_willMiss_12 ci_1 ?_
    refine V_bipush (v := 48) C dX6_willMiss_13 cb_48 ?_
    refine V_cSi (st := []) C (M_X6_in l D tc ad A x2 1 48 hJ) (va_cwS 3 C.1.2.2.2.2 gX6_willMiss_X6_in rfl rfl rfl (by decide +kernel) ⟨Nat.le_of_ble_eq_true rfl, Nat.le_of_ble_eq_true rfl⟩) rfl rfl (Nat.le_of_ble_eq_true rfl) dX6_willMiss_15 (fun r3 τ3 hJ => ?_)
    obtain ⟨hJt, hJf⟩ := hJ
    refine V_if_ne C (tgt := 24) dX6_willMiss_18 rfl (fun hc4 => ?_) (fun hc4 => ?_)
    · have hJ := hJt hc4; clear hJt hJf
      refine V_aload_n C dX6_willMiss_24 0 rfl ?_
      refine V_cVv (st := []) (ci := 6) C okM_0 (M_X6_keeps l D tc ad A  hJ) (cwV 0 C.1.2.2.2.2 gX6_willMiss_X6_keeps rfl rfl rfl (by decide +kernel) ⟨Nat.le_of_ble_eq_true rfl, Nat.le_of_ble_eq_true rfl⟩) rfl rfl rfl rfl (Nat.le_of_ble_eq_true rfl) dX6_willMiss_25 (fun τ5 hJ => ?_)
      refine V_iconst (v := 0) C dX6_willMiss_28 ci_0 ?_
      refine V_istore_n (lv' := [(3, .int 0), (0, .ref (ad (0, 0, 0))), (1, .int x1), (2, .int x2)]) C dX6_willMiss_29 (by decide) rfl ?_
      refine V_sub (lv' := [(0, .ref (ad (0, 0, 0))), (1, .int x1), (2, .int x2), (3, .int 0)]) [1, 2, 3, 0] rfl ?_
      obtain ⟨I30, μ30, hI30, hst30⟩ := hJ
      have L30 : ∀ (n : Nat) (x3_6 : Int32) (τ6 : Mem), μ30 x3_6 τ6 < n → I30 x3_6 τ6 → VV p l e (headSpec wsX6_willMiss ({ frames := 5, cells := 0, slots := 0, locals := 115 })).room s m ([.ref (ad (0, 0, 0)), .int x1, .int x2] : List Value).toArray below meth c D vwCl idsM ad (ceM tc ad) A (MQ below (va_Qi (fun (r : Int32) (u : Mem) => Qr r u) (WdO D vwCl idsM ad (ceM tc ad) A) A) ([.ref (ad (0, 0, 0)), .int x1, .int x2] : List Value).toArray s 0 0 A) 4 30 [(0, .ref (ad (0, 0, 0))), (1, .int x1), (2, .int x2), (3, .int x3_6)] [] τ6 := by
        intro n
        induction n with
        | zero => intro x3_6 τ6 hμ _; exact absurd hμ (Nat.not_lt_zero _)
        | succ n ihn =>
          intro x3_6 τ6 hμ30 hJ
          have ih30 := ihn
          replace hJ := hst30 x3_6 τ6 hJ
          refine V_iload_n C dX6_willMiss_30 3 rfl ?_
          refine V_iload_n C dX6_willMiss_31 2 rfl ?_
          obtain ⟨hJt, hJf⟩ := hJ
          refine V_icmp_ge C (tgt := 45) dX6_willMiss_32 rfl (fun hc7 => ?_) (fun hc7 => ?_)
          · have hJ := hJt hc7; clear hJt hJf
            refine V_aload_n C dX6_willMiss_45 0 rfl ?_
            refine V_get (ci := 6) C okM_0 uX6 rfl 0 (Nat.le_of_ble_eq_true rfl) rfl rfl f7 dX6_willMiss_46 ?_
            refine V_sipush (v := 190) C dX6_willMiss_49 cs_190 ?_
            refine V_iload_n C dX6_willMiss_52 1 rfl ?_
            refine V_iadd C dX6_willMiss_53 ?_
            obtain ⟨hv8, hJ⟩ := hJ
            refine V_iald C okM_1 0 rfl rfl rfl hv8 dX6_willMiss_54 ?_
            refine V_aload_n C dX6_willMiss_55 0 rfl ?_
            refine V_get (ci := 6) C okM_0 uX6 rfl 1 (Nat.le_of_ble_eq_true rfl) rfl rfl f13 dX6_willMiss_56 ?_
            refine V_sipush (v := 190) C dX6_willMiss_59 cs_190 ?_
            refine V_iload_n C dX6_willMiss_62 1 rfl ?_
            refine V_iadd C dX6_willMiss_63 ?_
            obtain ⟨hv9, hJ⟩ := hJ
            refine V_iald C okM_2 0 rfl rfl rfl hv9 dX6_willMiss_64 ?_
            refine V_isub C dX6_willMiss_65 ?_
            refine V_topi (fun x3_10 hx3_10 => ?_)
            replace hJ := hJ x3_10 hx3_10
            refine V_istore_n (lv' := [(3, .int x3_10), (0, .ref (ad (0, 0, 0))), (1, .int x1), (2, .int x2)]) C dX6_willMiss_66 (by decide) rfl ?_
            refine V_aload_n C dX6_willMiss_67 1 rfl ?_
            refine V_cVv (st := []) (ci := 6) C okM_0 (M_X6_brings l D tc ad A  hJ) (cwV 0 C.1.2.2.2.2 gX6_willMiss_X6_brings rfl rfl rfl (by decide +kernel) ⟨Nat.le_of_ble_eq_true rfl, Nat.le_of_ble_eq_true rfl⟩) rfl rfl rfl rfl (Nat.le_of_ble_eq_true rfl) dX6_willMiss_68 (fun τ11 hJ => ?_)
            refine V_iload_n C dX6_willMiss_71 0 rfl ?_
            exact V_iret C hr hlocks dX6_willMiss_72 hJ
          · have hJ := hJf hc7; clear hJt hJf
            refine V_aload_n C dX6_willMiss_35 0 rfl ?_
            refine V_cVv (st := []) (ci := 6) C okM_0 (M_X6_passes l D tc ad A  hJ) (cwV 0 C.1.2.2.2.2 gX6_willMiss_X6_passes rfl rfl rfl (by decide +kernel) ⟨Nat.le_of_ble_eq_true rfl, Nat.le_of_ble_eq_true rfl⟩) rfl rfl rfl rfl (Nat.le_of_ble_eq_true rfl) dX6_willMiss_36 (fun τ12 hJ => ?_)
            obtain ⟨x3_13, hx3_13⟩ : ∃ y : Int32, y = x3_6 + 1 := ⟨_, rfl⟩
            replace hJ := hJ x3_13 hx3_13
            refine V_iinc (v := x3_13) (lv' := [(3, .int x3_13), (0, .ref (ad (0, 0, 0))), (1, .int x1), (2, .int x2)]) C dX6_willMiss_39 3 rfl (by rw [hx3_13]; exact congrArg _ ci_1) (by decide) rfl ?_
            refine V_goto C (tgt := 30) dX6_willMiss_42 rfl ?_
            refine V_sub (lv' := [(0, .ref (ad (0, 0, 0))), (1, .int x1), (2, .int x2), (3, .int x3_13)]) [1, 2, 3, 0] rfl ?_
            exact ih30 x3_13 τ12 (Nat.lt_of_lt_of_le hJ.2 (Nat.le_of_lt_succ hμ30)) hJ.1
      exact L30 _ 0 τ5 (Nat.lt_succ_self _) hI30
    · have hJ := hJf hc4; clear hJt hJf
      refine V_bipush (v := (-102)) C dX6_willMiss_21 cb_m102 ?_
      exact V_iret C hr hlocks dX6_willMiss_23 hJ
  · have hJ := hJf hc2; clear hJt hJf
    refine V_bipush (v := (-101)) C dX6_willMiss_8 cb_m101 ?_
    exact V_iret C hr hlocks dX6_willMiss_10 hJ
