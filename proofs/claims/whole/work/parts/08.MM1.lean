set_option maxHeartbeats 4000000 in
set_option maxRecDepth 100000 in
theorem M_X6_judged (l : Launch) (D : va_G) (tc : Nat → ClassId) (ad : Oid → Nat) (A : Nat → Prop) (x1 : Int32) (x2 : Int32) {σ : Mem} {Qr : Int32 → Mem → Prop} (hJ : J_X6_judged x1 x2 σ Qr) : Met l yX6_judged wsX6_judged ({ frames := 5, cells := 0, slots := 0, locals := 113 }) (va_Pc [.ref (ad (0, 0, 0)), .int x1, .int x2] (WdI D vwCl (tysX tc) idsM ad (ceM tc ad) A σ)) (va_Qi (fun (r : Int32) (u : Mem) => Qr r u) (WdO D vwCl idsM ad (ceM tc ad) A) A) 0 0 A := by
  refine V_meti (cc := cX6_judged) (nL := 5) (ret := (some .int)) (own := RX6) rfl (plainFor_of_name (by decide)) rfl rfl (Nat.le_of_ble_eq_true rfl) ?_
  intro p e s m below meth c C hr hlocks
  refine V_sub (lv' := [(0, .ref (ad (0, 0, 0))), (1, .int x1), (2, .int x2)]) [0, 1, 2] rfl ?_
  have f29 : Cond.fieldLink RX6 29 (TX6 7).1 (TX6 7).2.1 (TX6 7).2.2.1 ∈ wsX6_judged := List.mem_of_getElem? (i := 1) rfl
  have uX6 : ∀ w ∈ u_ws RX6 TX6 12, w ∈ wsX6_judged := by decide +kernel
  have f26 : Cond.fieldLink RX6 26 (TX6 6).1 (TX6 6).2.1 (TX6 6).2.2.1 ∈ wsX6_judged := List.mem_of_getElem? (i := 2) rfl
  have f7 : Cond.fieldLink RX6 7 (TX6 0).1 (TX6 0).2.1 (TX6 0).2.2.1 ∈ wsX6_judged := List.mem_of_getElem? (i := 3) rfl
  unfold J_X6_judged at hJ
  refine V_aload_n C dX6_judged_0 0 rfl ?_
  refine V_cVv (st := []) (ci := 6) C okM_0 (M_X6_distributes l D tc ad A  hJ) (cwV 0 C.1.2.2.2.2 gX6_judged_X6_distributes rfl rfl rfl (by decide +kernel) ⟨Nat.le_of_ble_eq_true rfl, Nat.le_of_ble_eq_true rfl⟩) rfl rfl rfl rfl (Nat.le_of_ble_eq_true rfl) dX6_judged_1 (fun τ1 hJ => ?_)
  refine V_aload_n C dX6_judged_4 0 rfl ?_
  refine V_get (ci := 6) C okM_0 uX6 rfl 7 (Nat.le_of_ble_eq_true rfl) rfl rfl f29 dX6_judged_5 ?_
  refine V_iload_n C dX6_judged_8 2 rfl ?_
  obtain ⟨hv2, hJ⟩ := hJ
  refine V_iald C okM_7 0 rfl rfl rfl hv2 dX6_judged_9 ?_
  refine V_topi (fun x3_3 hx3_3 => ?_)
  replace hJ := hJ x3_3 hx3_3
  refine V_istore_n (lv' := [(3, .int x3_3), (0, .ref (ad (0, 0, 0))), (1, .int x1), (2, .int x2)]) C dX6_judged_10 (by decide) rfl ?_
  refine V_aload_n C dX6_judged_11 1 rfl ?_
  refine V_get (ci := 6) C okM_0 uX6 rfl 7 (Nat.le_of_ble_eq_true rfl) rfl rfl f29 dX6_judged_12 ?_
  refine V_iload_n C dX6_judged_15 2 rfl ?_
  obtain ⟨hv4, hJ⟩ := hJ
  refine V_iald C okM_7 0 rfl rfl rfl hv4 dX6_judged_16 ?_
  refine V_aload_n C dX6_judged_17 1 rfl ?_
  refine V_get (ci := 6) C okM_0 uX6 rfl 6 (Nat.le_of_ble_eq_true rfl) rfl rfl f26 dX6_judged_18 ?_
  refine V_iload_n C dX6_judged_21 2 rfl ?_
  obtain ⟨hv5, hJ⟩ := hJ
  refine V_iald C okM_6 0 rfl rfl rfl hv5 dX6_judged_22 ?_
  obtain ⟨hJt, hJf⟩ := hJ
  refine V_icmp_ge C (tgt := 30) dX6_judged_23 rfl (fun hc6 => ?_) (fun hc6 => ?_)
  · have hJ := hJt hc6; clear hJt hJf
    refine V_iconst (v := 0) C dX6_judged_30 ci_0 ?_
    exact V_iret C hr hlocks dX6_judged_31 hJ
  · have hJ := hJf hc6; clear hJt hJf
    refine V_iload_n C dX6_judged_26 0 rfl ?_
    obtain ⟨hJt, hJf⟩ := hJ
    refine V_if_ne C (tgt := 32) dX6_judged_27 rfl (fun hc7 => ?_) (fun hc7 => ?_)
    · have hJ := hJt hc7; clear hJt hJf
      refine V_aload_n C dX6_judged_32 1 rfl ?_
      refine V_iload_n C dX6_judged_33 2 rfl ?_
      refine V_iload_n C dX6_judged_34 3 rfl ?_
      refine V_cVi (st := []) (ci := 6) C okM_0 (M_X6_gainOf l D tc ad A x1 x2 hJ) (cwV 2 C.1.2.2.2.2 gX6_judged_X6_gainOf rfl rfl rfl (by decide +kernel) ⟨Nat.le_of_ble_eq_true rfl, Nat.le_of_ble_eq_true rfl⟩) rfl rfl rfl rfl (Nat.le_of_ble_eq_true rfl) dX6_judged_35 (fun r8 τ8 hJ => ?_)
      refine V_istore (lv' := [(4, .int r8), (3, .int x3_3), (0, .ref (ad (0, 0, 0))), (1, .int x1), (2, .int x2)]) C dX6_judged_38 (by decide) rfl ?_
      refine V_bipush (v := 100) C dX6_judged_40 cb_100 ?_
      refine V_iload C dX6_judged_42 0 rfl ?_
      refine V_imul C dX6_judged_44 ?_
      refine V_aload_n C dX6_judged_45 2 rfl ?_
      refine V_get (ci := 6) C okM_0 uX6 rfl 0 (Nat.le_of_ble_eq_true rfl) rfl rfl f7 dX6_judged_46 ?_
      refine V_iconst (v := 4) C dX6_judged_49 ci_4 ?_
      refine V_iald C okM_1 0 rfl rfl ix_4 vpc_4_214 dX6_judged_50 ?_
      refine V_iload_n C dX6_judged_51 1 rfl ?_
      refine V_imul C dX6_judged_52 ?_
      obtain ⟨hJt, hJf⟩ := hJ
      refine V_icmp_lt C (tgt := 61) dX6_judged_53 rfl (fun hc9 => ?_) (fun hc9 => ?_)
      · have hJ := hJt hc9; clear hJt hJf
        refine V_iconst (v := 1) C dX6_judged_61 ci_1 ?_
        refine V_goto C (tgt := 66) dX6_judged_62 rfl ?_
        exact V_iret C hr hlocks dX6_judged_66 hJ
      · have hJ := hJf hc9; clear hJt hJf
        refine V_iload C dX6_judged_56 0 rfl ?_
        obtain ⟨hJt, hJf⟩ := hJ
        refine V_if_ne C (tgt := 65) dX6_judged_58 rfl (fun hc10 => ?_) (fun hc10 => ?_)
        · have hJ := hJt hc10; clear hJt hJf
          refine V_iconst (v := 2) C dX6_judged_65 ci_2 ?_
          exact V_iret C hr hlocks dX6_judged_66 hJ
        · have hJ := hJf hc10; clear hJt hJf
          refine V_iconst (v := 1) C dX6_judged_61 ci_1 ?_
          refine V_goto C (tgt := 66) dX6_judged_62 rfl ?_
          exact V_iret C hr hlocks dX6_judged_66 hJ
    · have hJ := hJf hc7; clear hJt hJf
      refine V_iconst (v := 0) C dX6_judged_30 ci_0 ?_
      exact V_iret C hr hlocks dX6_judged_31 hJ
set_option maxHeartbeats 4000000 in
set_option maxRecDepth 100000 in
theorem M_X6_complaint (l : Launch) (D : va_G) (tc : Nat → ClassId) (ad : Oid → Nat) (A : Nat → Prop) (x1 : Int32) (x2 : Int32) {σ : Mem} {Qr : Int32 → Mem → Prop} (hJ : J_X6_complaint x1 x2 σ Qr) : Met l yX6_complaint wsX6_complaint ({ frames := 6, cells := 0, slots := 0, locals := 137 }) (va_Pc [.ref (ad (0, 0, 0)), .int x1, .int x2] (WdI D vwCl (tysX tc) idsM ad (ceM tc ad) A σ)) (va_Qi (fun (r : Int32) (u : Mem) => Qr r u) (WdO D vwCl idsM ad (ceM tc ad) A) A) 0 0 A := by
  refine V_meti (cc := cX6_complaint) (nL := 3) (ret := (some .int)) (own := RX6) rfl (plainFor_of_name (by decide)) rfl rfl (Nat.le_of_ble_eq_true rfl) ?_
  intro p e s m below meth c C hr hlocks
  refine V_sub (lv' := [(0, .ref (ad (0, 0, 0))), (1, .int x1), (2, .int x2)]) [0, 1, 2] rfl ?_
  unfold J_X6_complaint at hJ
  refine V_aload_n C dX6_complaint_0 0 rfl ?_
  refine V_iload_n C dX6_complaint_1 1 rfl ?_
  refine V_cVi (st := []) (ci := 6) C okM_0 (M_X6_isUser l D tc ad A x1 hJ) (cwV 1 C.1.2.2.2.2 gX6_complaint_X6_isUser rfl rfl rfl (by decide +kernel) ⟨Nat.le_of_ble_eq_true rfl, Nat.le_of_ble_eq_true rfl⟩) rfl rfl rfl rfl (Nat.le_of_ble_eq_true rfl) dX6_complaint_2 (fun r1 τ1 hJ => ?_)
  obtain ⟨hJt, hJf⟩ := hJ
  refine V_if_eq C (tgt := 16) dX6_complaint_5 rfl (fun hc2 => ?_) (fun hc2 => ?_)
  · have hJ := hJt hc2; clear hJt hJf
    refine V_bipush (v := (-101)) C dX6_complaint_16 cb_m101 ?_
    exact V_iret C hr hlocks dX6_complaint_18 hJ
  · have hJ := hJf hc2; clear hJt hJf
    refine V_aload_n C dX6_complaint_8 0 rfl ?_
    refine V_iload_n C dX6_complaint_9 2 rfl ?_
    refine V_cVi (st := []) (ci := 6) C okM_0 (M_X6_isUser l D tc ad A x2 hJ) (cwV 1 C.1.2.2.2.2 gX6_complaint_X6_isUser rfl rfl rfl (by decide +kernel) ⟨Nat.le_of_ble_eq_true rfl, Nat.le_of_ble_eq_true rfl⟩) rfl rfl rfl rfl (Nat.le_of_ble_eq_true rfl) dX6_complaint_10 (fun r3 τ3 hJ => ?_)
    obtain ⟨hJt, hJf⟩ := hJ
    refine V_if_ne C (tgt := 19) dX6_complaint_13 rfl (fun hc4 => ?_) (fun hc4 => ?_)
    · have hJ := hJt hc4; clear hJt hJf
      refine V_aload_n C dX6_complaint_19 0 rfl ?_
      refine V_iload_n C dX6_complaint_20 1 rfl ?_
      refine V_iload_n C dX6_complaint_21 2 rfl ?_
      refine V_cVi (st := []) (ci := 6) C okM_0 (M_X6_isOlder l D tc ad A x1 x2 hJ) (cwV 2 C.1.2.2.2.2 gX6_complaint_X6_isOlder rfl rfl rfl (by decide +kernel) ⟨Nat.le_of_ble_eq_true rfl, Nat.le_of_ble_eq_true rfl⟩) rfl rfl rfl rfl (Nat.le_of_ble_eq_true rfl) dX6_complaint_22 (fun r5 τ5 hJ => ?_)
      obtain ⟨hJt, hJf⟩ := hJ
      refine V_if_eq C (tgt := 37) dX6_complaint_25 rfl (fun hc6 => ?_) (fun hc6 => ?_)
      · have hJ := hJt hc6; clear hJt hJf
        refine V_bipush (v := (-103)) C dX6_complaint_37 cb_m103 ?_
        exact V_iret C hr hlocks dX6_complaint_39 hJ
      · have hJ := hJf hc6; clear hJt hJf
        refine V_aload_n C dX6_complaint_28 0 rfl ?_
        refine V_iload_n C dX6_complaint_29 1 rfl ?_
        refine V_iload_n C dX6_complaint_30 2 rfl ?_
        refine V_cVi (st := []) (ci := 6) C okM_0 (M_X6_judged l D tc ad A x1 x2 hJ) (cwV 2 C.1.2.2.2.2 gX6_complaint_X6_judged rfl rfl rfl (by decide +kernel) ⟨Nat.le_of_ble_eq_true rfl, Nat.le_of_ble_eq_true rfl⟩) rfl rfl rfl rfl (Nat.le_of_ble_eq_true rfl) dX6_complaint_31 (fun r7 τ7 hJ => ?_)
        refine V_goto C (tgt := 39) dX6_complaint_34 rfl ?_
        exact V_iret C hr hlocks dX6_complaint_39 hJ
    · have hJ := hJf hc4; clear hJt hJf
      refine V_bipush (v := (-101)) C dX6_complaint_16 cb_m101 ?_
      exact V_iret C hr hlocks dX6_complaint_18 hJ
set_option maxHeartbeats 4000000 in
set_option maxRecDepth 100000 in
theorem M_X6_ditches (l : Launch) (D : va_G) (tc : Nat → ClassId) (ad : Oid → Nat) (A : Nat → Prop) {σ : Mem} {Qr : Int32 → Mem → Prop} (hJ : J_X6_ditches σ Qr) : Met l yX6_ditches wsX6_ditches ({ frames := 0, cells := 0, slots := 0, locals := 0 }) (va_Pc [.ref (ad (0, 0, 0))] (WdI D vwCl (tysX tc) idsM ad (ceM tc ad) A σ)) (va_Qi (fun (r : Int32) (u : Mem) => Qr r u) (WdO D vwCl idsM ad (ceM tc ad) A) A) 0 0 A := by
  refine V_meti (cc := cX6_ditches) (nL := 1) (ret := (some .int)) (own := RX6) rfl (plainFor_of_name (by decide)) rfl rfl (Nat.le_of_ble_eq_true rfl) ?_
  intro p e s m below meth c C hr hlocks
  refine V_sub (lv' := [(0, .ref (ad (0, 0, 0)))]) [0] rfl ?_
  have f7 : Cond.fieldLink RX6 7 (TX6 0).1 (TX6 0).2.1 (TX6 0).2.2.1 ∈ wsX6_ditches := List.mem_of_getElem? (i := 1) rfl
  have uX6 : ∀ w ∈ u_ws RX6 TX6 12, w ∈ wsX6_ditches := by decide +kernel
  unfold J_X6_ditches at hJ
  refine V_aload_n C dX6_ditches_0 0 rfl ?_
  refine V_get (ci := 6) C okM_0 uX6 rfl 0 (Nat.le_of_ble_eq_true rfl) rfl rfl f7 dX6_ditches_1 ?_
  refine V_iconst (v := 1) C dX6_ditches_4 ci_1 ?_
  refine V_iald C okM_1 0 rfl rfl ix_1 vpc_1_214 dX6_ditches_5 ?_
  exact V_iret C hr hlocks dX6_ditches_6 hJ
set_option maxHeartbeats 4000000 in
set_option maxRecDepth 100000 in
theorem M_X6_keeps (l : Launch) (D : va_G) (tc : Nat → ClassId) (ad : Oid → Nat) (A : Nat → Prop) {σ : Mem} {Qr : Mem → Prop} (hJ : J_X6_keeps σ Qr) : Met l yX6_keeps wsX6_keeps ({ frames := 0, cells := 0, slots := 0, locals := 0 }) (va_Pc [.ref (ad (0, 0, 0))] (WdI D vwCl (tysX tc) idsM ad (ceM tc ad) A σ)) (va_Qv (fun (u : Mem) => Qr u) (WdO D vwCl idsM ad (ceM tc ad) A) A) 0 0 A := by
  refine V_metv (cc := cX6_keeps) (nL := 2) (ret := none) (own := RX6) rfl (plainFor_of_name (by decide)) rfl rfl (Nat.le_of_ble_eq_true rfl) ?_
  intro p e s m below meth c C hr hlocks
  refine V_sub (lv' := [(0, .ref (ad (0, 0, 0)))]) [0] rfl ?_
  have f13 : Cond.fieldLink RX6 13 (TX6 1).1 (TX6 1).2.1 (TX6 1).2.2.1 ∈ wsX6_keeps := List.mem_of_getElem? (i := 1) rfl
  have uX6 : ∀ w ∈ u_ws RX6 TX6 12, w ∈ wsX6_keeps := by decide +kernel
  have f7 : Cond.fieldLink RX6 7 (TX6 0).1 (TX6 0).2.1 (TX6 0).2.2.1 ∈ wsX6_keeps := List.mem_of_getElem? (i := 2) rfl
  unfold J_X6_keeps at hJ
  refine V_iconst (v := 0) C dX6_keeps_0 ci_0 ?_
  refine V_istore_n (lv' := [(1, .int 0), (0, .ref (ad (0, 0, 0)))]) C dX6_keeps_1 (by decide) rfl ?_
  refine V_sub (lv' := [(0, .ref (ad (0, 0, 0))), (1, .int 0)]) [1, 0] rfl ?_
  obtain ⟨I2, μ2, hI2, hst2⟩ := hJ
  have L2 : ∀ (n : Nat) (x1_1 : Int32) (τ1 : Mem), μ2 x1_1 τ1 < n → I2 x1_1 τ1 → VV p l e (headSpec wsX6_keeps ({ frames := 0, cells := 0, slots := 0, locals := 0 })).room s m ([.ref (ad (0, 0, 0))] : List Value).toArray below meth c D vwCl idsM ad (ceM tc ad) A (MQ below (va_Qv (fun (u : Mem) => Qr u) (WdO D vwCl idsM ad (ceM tc ad) A) A) ([.ref (ad (0, 0, 0))] : List Value).toArray s 0 0 A) 2 2 [(0, .ref (ad (0, 0, 0))), (1, .int x1_1)] [] τ1 := by
    intro n
    induction n with
    | zero => intro x1_1 τ1 hμ _; exact absurd hμ (Nat.not_lt_zero _)
    | succ n ihn =>
      intro x1_1 τ1 hμ2 hJ
      have ih2 := ihn
      replace hJ := hst2 x1_1 τ1 hJ
      refine V_iload_n C dX6_keeps_2 1 rfl ?_
      refine V_sipush (v := 214) C dX6_keeps_3 cs_214 ?_
      obtain ⟨hJt, hJf⟩ := hJ
      refine V_icmp_ge C (tgt := 27) dX6_keeps_6 rfl (fun hc2 => ?_) (fun hc2 => ?_)
      · have hJ := hJt hc2; clear hJt hJf
        exact V_vret C hr hlocks dX6_keeps_27 hJ
      · have hJ := hJf hc2; clear hJt hJf
        refine V_aload_n C dX6_keeps_9 0 rfl ?_
        refine V_get (ci := 6) C okM_0 uX6 rfl 1 (Nat.le_of_ble_eq_true rfl) rfl rfl f13 dX6_keeps_10 ?_
        refine V_iload_n C dX6_keeps_13 1 rfl ?_
        refine V_aload_n C dX6_keeps_14 0 rfl ?_
        refine V_get (ci := 6) C okM_0 uX6 rfl 0 (Nat.le_of_ble_eq_true rfl) rfl rfl f7 dX6_keeps_15 ?_
        refine V_iload_n C dX6_keeps_18 1 rfl ?_
        obtain ⟨hv3, hJ⟩ := hJ
        refine V_iald C okM_1 0 rfl rfl rfl hv3 dX6_keeps_19 ?_
        obtain ⟨hv4, hJ⟩ := hJ
        refine V_iast C okM_2 0 rfl (fun _ => rfl) rfl hv4 dX6_keeps_20 (fun τ5 hτ5 => ?_)
        replace hJ := hJ τ5 hτ5
        obtain ⟨x1_6, hx1_6⟩ : ∃ y : Int32, y = x1_1 + 1 := ⟨_, rfl⟩
        replace hJ := hJ x1_6 hx1_6
        refine V_iinc (v := x1_6) (lv' := [(1, .int x1_6), (0, .ref (ad (0, 0, 0)))]) C dX6_keeps_21 1 rfl (by rw [hx1_6]; exact congrArg _ ci_1) (by decide) rfl ?_
        refine V_goto C (tgt := 2) dX6_keeps_24 rfl ?_
        refine V_sub (lv' := [(0, .ref (ad (0, 0, 0))), (1, .int x1_6)]) [1, 0] rfl ?_
        exact ih2 x1_6 τ5 (Nat.lt_of_lt_of_le hJ.2 (Nat.le_of_lt_succ hμ2)) hJ.1
  exact L2 _ 0 σ (Nat.lt_succ_self _) hI2
set_option maxHeartbeats 4000000 in
set_option maxRecDepth 100000 in
theorem M_X6_here (l : Launch) (D : va_G) (tc : Nat → ClassId) (ad : Oid → Nat) (A : Nat → Prop) {σ : Mem} {Qr : Int32 → Mem → Prop} (hJ : J_X6_here σ Qr) : Met l yX6_here wsX6_here ({ frames := 0, cells := 0, slots := 0, locals := 0 }) (va_Pc [.ref (ad (0, 0, 0))] (WdI D vwCl (tysX tc) idsM ad (ceM tc ad) A σ)) (va_Qi (fun (r : Int32) (u : Mem) => Qr r u) (WdO D vwCl idsM ad (ceM tc ad) A) A) 0 0 A := by
  refine V_meti (cc := cX6_here) (nL := 1) (ret := (some .int)) (own := RX6) rfl (plainFor_of_name (by decide)) rfl rfl (Nat.le_of_ble_eq_true rfl) ?_
  intro p e s m below meth c C hr hlocks
  refine V_sub (lv' := [(0, .ref (ad (0, 0, 0)))]) [0] rfl ?_
  have f132 : Cond.fieldLink RX6 132 (TX6 10).1 (TX6 10).2.1 (TX6 10).2.2.1 ∈ wsX6_here := List.mem_of_getElem? (i := 1) rfl
  have uX6 : ∀ w ∈ u_ws RX6 TX6 12, w ∈ wsX6_here := by decide +kernel
  have f128 : Cond.fieldLink RX6 128 (TX6 5).1 (TX6 5).2.1 (TX6 5).2.2.1 ∈ wsX6_here := List.mem_of_getElem? (i := 2) rfl
  have f23 : Cond.fieldLink RX6 23 (TX6 4).1 (TX6 4).2.1 (TX6 4).2.2.1 ∈ wsX6_here := List.mem_of_getElem? (i := 3) rfl
  unfold J_X6_here at hJ
  refine V_aload_n C dX6_here_0 0 rfl ?_
  refine V_get (ci := 6) C okM_0 uX6 rfl 10 (Nat.le_of_ble_eq_true rfl) rfl rfl f132 dX6_here_1 ?_
  refine V_aload_n C dX6_here_4 0 rfl ?_
  refine V_get (ci := 6) C okM_0 uX6 rfl 5 (Nat.le_of_ble_eq_true rfl) rfl rfl f128 dX6_here_5 ?_
  obtain ⟨hJt, hJf⟩ := hJ
  refine V_icmp_ge C (tgt := 23) dX6_here_8 rfl (fun hc1 => ?_) (fun hc1 => ?_)
  · have hJ := hJt hc1; clear hJt hJf
    refine V_iconst (v := (-1)) C dX6_here_23 ci_m1 ?_
    exact V_iret C hr hlocks dX6_here_24 hJ
  · have hJ := hJf hc1; clear hJt hJf
    refine V_aload_n C dX6_here_11 0 rfl ?_
    refine V_get (ci := 6) C okM_0 uX6 rfl 4 (Nat.le_of_ble_eq_true rfl) rfl rfl f23 dX6_here_12 ?_
    refine V_aload_n C dX6_here_15 0 rfl ?_
    refine V_get (ci := 6) C okM_0 uX6 rfl 10 (Nat.le_of_ble_eq_true rfl) rfl rfl f132 dX6_here_16 ?_
    obtain ⟨hv2, hJ⟩ := hJ
    refine V_iald C okM_5 0 rfl rfl rfl hv2 dX6_here_19 ?_
    refine V_goto C (tgt := 24) dX6_here_20 rfl ?_
    exact V_iret C hr hlocks dX6_here_24 hJ
set_option maxHeartbeats 4000000 in
set_option maxRecDepth 100000 in
theorem M_X6_number (l : Launch) (D : va_G) (tc : Nat → ClassId) (ad : Oid → Nat) (A : Nat → Prop) (x1 : Int32) (x2 : Int32) (x3 : Int32) {σ : Mem} {Qr : Int32 → Mem → Prop} (hJ : J_X6_number x1 x2 x3 σ Qr) : Met l yX6_number wsX6_number ({ frames := 1, cells := 0, slots := 0, locals := 22 }) (va_Pc [.ref (ad (0, 0, 0)), .int x1, .int x2, .int x3] (WdI D vwCl (tysX tc) idsM ad (ceM tc ad) A σ)) (va_Qi (fun (r : Int32) (u : Mem) => Qr r u) (WdO D vwCl idsM ad (ceM tc ad) A) A) 0 0 A := by
  refine V_meti (cc := cX6_number) (nL := 7) (ret := (some .boolean)) (own := RX6) rfl (plainFor_of_name (by decide)) rfl rfl (Nat.le_of_ble_eq_true rfl) ?_
  intro p e s m below meth c C hr hlocks
  refine V_sub (lv' := [(0, .ref (ad (0, 0, 0))), (1, .int x1), (2, .int x2), (3, .int x3)]) [0, 1, 2, 3] rfl ?_
  have f132 : Cond.fieldLink RX6 132 (TX6 10).1 (TX6 10).2.1 (TX6 10).2.2.1 ∈ wsX6_number := List.mem_of_getElem? (i := 1) rfl
  have uX6 : ∀ w ∈ u_ws RX6 TX6 12, w ∈ wsX6_number := by decide +kernel
  have f38 : Cond.fieldLink RX6 38 (TX6 11).1 (TX6 11).2.1 (TX6 11).2.2.1 ∈ wsX6_number := List.mem_of_getElem? (i := 4) rfl
  have f23 : Cond.fieldLink RX6 23 (TX6 4).1 (TX6 4).2.1 (TX6 4).2.2.1 ∈ wsX6_number := List.mem_of_getElem? (i := 3) rfl
  have B110 : ∀ (b1 : Int32) (b4 : Int32) (b5 : Int32) (t0 : Int32) (τ : Mem), J_X6_number_b110 x1 x2 x3  b1 b4 b5 t0 τ Qr → VV p l e (headSpec wsX6_number ({ frames := 1, cells := 0, slots := 0, locals := 22 })).room s m ([.ref (ad (0, 0, 0)), .int x1, .int x2, .int x3] : List Value).toArray below meth c D vwCl idsM ad (ceM tc ad) A (MQ below (va_Qi (fun (r : Int32) (u : Mem) => Qr r u) (WdO D vwCl idsM ad (ceM tc ad) A) A) ([.ref (ad (0, 0, 0)), .int x1, .int x2, .int x3] : List Value).toArray s 0 0 A) 7 110 [(0, .ref (ad (0, 0, 0))), (1, .int b1), (4, .int b4), (5, .int b5)] [.int t0] τ := by
    intro b1 b4 b5 t0 τ hJ
    unfold J_X6_number_b110 at hJ
    refine V_istore (lv' := [(6, .int t0), (0, .ref (ad (0, 0, 0))), (1, .int b1), (4, .int b4), (5, .int b5)]) C dX6_number_110 (by decide) rfl ?_
    refine V_aload_n C dX6_number_112 1 rfl ?_
    refine V_iload C dX6_number_113 0 rfl ?_
    obtain ⟨hJt, hJf⟩ := hJ
    refine V_if_eq C (tgt := 125) dX6_number_115 rfl (fun hc7 => ?_) (fun hc7 => ?_)
    · have hJ := hJt hc7; clear hJt hJf
      refine V_iload C dX6_number_125 3 rfl ?_
      refine V_put (ci := 6) C okM_0 uX6 tyX6 tyX6_ok nmX6 rfl 10 (Nat.le_of_ble_eq_true rfl) rfl rfl f132 rfl (ty := .int) (by decide +kernel) rfl rfl (Nat.le_of_ble_eq_true rfl) dX6_number_127 (fun τ8 hτ8 => ?_)
      replace hJ := hJ τ8 hτ8
      refine V_aload_n C dX6_number_130 1 rfl ?_
      refine V_get (ci := 6) C okM_0 uX6 rfl 11 (Nat.le_of_ble_eq_true rfl) rfl rfl f38 dX6_number_131 ?_
      refine V_iload_n C dX6_number_134 2 rfl ?_
      refine V_iload C dX6_number_135 4 rfl ?_
      obtain ⟨hv9, hJ⟩ := hJ
      refine V_iast C okM_10 0 rfl (fun _ => rfl) rfl hv9 dX6_number_137 (fun τ10 hτ10 => ?_)
      replace hJ := hJ τ10 hτ10
      refine V_iload C dX6_number_138 0 rfl ?_
      obtain ⟨hb11, hJ⟩ := hJ
      exact V_zret C hr hlocks hb11 dX6_number_140 hJ
    · have hJ := hJf hc7; clear hJt hJf
      refine V_aload_n C dX6_number_118 1 rfl ?_
      refine V_get (ci := 6) C okM_0 uX6 rfl 10 (Nat.le_of_ble_eq_true rfl) rfl rfl f132 dX6_number_119 ?_
      refine V_goto C (tgt := 127) dX6_number_122 rfl ?_
      refine V_put (ci := 6) C okM_0 uX6 tyX6 tyX6_ok nmX6 rfl 10 (Nat.le_of_ble_eq_true rfl) rfl rfl f132 rfl (ty := .int) (by decide +kernel) rfl rfl (Nat.le_of_ble_eq_true rfl) dX6_number_127 (fun τ12 hτ12 => ?_)
      replace hJ := hJ τ12 hτ12
      refine V_aload_n C dX6_number_130 1 rfl ?_
      refine V_get (ci := 6) C okM_0 uX6 rfl 11 (Nat.le_of_ble_eq_true rfl) rfl rfl f38 dX6_number_131 ?_
      refine V_iload_n C dX6_number_134 2 rfl ?_
      refine V_iload C dX6_number_135 4 rfl ?_
      obtain ⟨hv13, hJ⟩ := hJ
      refine V_iast C okM_10 0 rfl (fun _ => rfl) rfl hv13 dX6_number_137 (fun τ14 hτ14 => ?_)
      replace hJ := hJ τ14 hτ14
      refine V_iload C dX6_number_138 0 rfl ?_
      obtain ⟨hb15, hJ⟩ := hJ
      exact V_zret C hr hlocks hb15 dX6_number_140 hJ
  have B95 : ∀ (b1 : Int32) (b2 : Int32) (b3 : Int32) (b4 : Int32) (b5 : Int32) (τ : Mem), J_X6_number_b95 x1 x2 x3  b1 b2 b3 b4 b5 τ Qr → VV p l e (headSpec wsX6_number ({ frames := 1, cells := 0, slots := 0, locals := 22 })).room s m ([.ref (ad (0, 0, 0)), .int x1, .int x2, .int x3] : List Value).toArray below meth c D vwCl idsM ad (ceM tc ad) A (MQ below (va_Qi (fun (r : Int32) (u : Mem) => Qr r u) (WdO D vwCl idsM ad (ceM tc ad) A) A) ([.ref (ad (0, 0, 0)), .int x1, .int x2, .int x3] : List Value).toArray s 0 0 A) 7 95 [(0, .ref (ad (0, 0, 0))), (1, .int b1), (2, .int b2), (3, .int b3), (4, .int b4), (5, .int b5)] [] τ := by
    intro b1 b2 b3 b4 b5 τ hJ
    unfold J_X6_number_b95 at hJ
    refine V_iload C dX6_number_95 5 rfl ?_
    refine V_iload_n C dX6_number_97 2 rfl ?_
    refine V_iload_n C dX6_number_98 3 rfl ?_
    refine V_cSi (st := []) C (M_X6_in l D tc ad A b5 b2 b3 hJ) (va_cwS 3 C.1.2.2.2.2 gX6_number_X6_in rfl rfl rfl (by decide +kernel) ⟨Nat.le_of_ble_eq_true rfl, Nat.le_of_ble_eq_true rfl⟩) rfl rfl (Nat.le_of_ble_eq_true rfl) dX6_number_99 (fun r18 τ18 hJ => ?_)
    obtain ⟨hJt, hJf⟩ := hJ
    refine V_if_eq C (tgt := 109) dX6_number_102 rfl (fun hc19 => ?_) (fun hc19 => ?_)
    · have hJ := hJt hc19; clear hJt hJf
      refine V_iconst (v := 0) C dX6_number_109 ci_0 ?_
      refine V_sub (lv' := [(0, .ref (ad (0, 0, 0))), (1, .int b1), (4, .int b4), (5, .int b5)]) [0, 1, 4, 5] rfl ?_
      exact B110 b1 b4 b5 0 τ18 hJ
    · have hJ := hJf hc19; clear hJt hJf
      refine V_iconst (v := 1) C dX6_number_105 ci_1 ?_
      refine V_goto C (tgt := 110) dX6_number_106 rfl ?_
      refine V_sub (lv' := [(0, .ref (ad (0, 0, 0))), (1, .int b1), (4, .int b4), (5, .int b5)]) [0, 1, 4, 5] rfl ?_
      exact B110 b1 b4 b5 1 τ18 hJ
  unfold J_X6_number at hJ
  refine V_aload_n C dX6_number_0 0 rfl ?_
  refine V_get (ci := 6) C okM_0 uX6 rfl 10 (Nat.le_of_ble_eq_true rfl) rfl rfl f132 dX6_number_1 ?_
  refine V_topi (fun x4_1 hx4_1 => ?_)
  replace hJ := hJ x4_1 hx4_1
  refine V_istore (lv' := [(4, .int x4_1), (0, .ref (ad (0, 0, 0))), (1, .int x1), (2, .int x2), (3, .int x3)]) C dX6_number_4 (by decide) rfl ?_
  refine V_iconst (v := 0) C dX6_number_6 ci_0 ?_
  refine V_istore (lv' := [(5, .int 0), (4, .int x4_1), (0, .ref (ad (0, 0, 0))), (1, .int x1), (2, .int x2), (3, .int x3)]) C dX6_number_7 (by decide) rfl ?_
  refine V_sub (lv' := [(0, .ref (ad (0, 0, 0))), (1, .int x1), (2, .int x2), (3, .int x3), (4, .int x4_1), (5, .int 0)]) [2, 3, 4, 5, 1, 0] rfl ?_
  obtain ⟨I9, μ9, hI9, hst9⟩ := hJ
  have L9 : ∀ (n : Nat) (x5_2 : Int32) (τ2 : Mem), μ9 x5_2 τ2 < n → I9 x5_2 τ2 → VV p l e (headSpec wsX6_number ({ frames := 1, cells := 0, slots := 0, locals := 22 })).room s m ([.ref (ad (0, 0, 0)), .int x1, .int x2, .int x3] : List Value).toArray below meth c D vwCl idsM ad (ceM tc ad) A (MQ below (va_Qi (fun (r : Int32) (u : Mem) => Qr r u) (WdO D vwCl idsM ad (ceM tc ad) A) A) ([.ref (ad (0, 0, 0)), .int x1, .int x2, .int x3] : List Value).toArray s 0 0 A) 7 9 [(0, .ref (ad (0, 0, 0))), (1, .int x1), (2, .int x2), (3, .int x3), (4, .int x4_1), (5, .int x5_2)] [] τ2 := by
    intro n
    induction n with
    | zero => intro x5_2 τ2 hμ _; exact absurd hμ (Nat.not_lt_zero _)
    | succ n ihn =>
      intro x5_2 τ2 hμ9 hJ
      have ih9 := ihn
      replace hJ := hst9 x5_2 τ2 hJ
      refine V_aload_n C dX6_number_9 0 rfl ?_
      refine V_cVi (st := []) (ci := 6) C okM_0 (M_X6_here l D tc ad A  hJ) (cwV 0 C.1.2.2.2.2 gX6_number_X6_here rfl rfl rfl (by decide +kernel) ⟨Nat.le_of_ble_eq_true rfl, Nat.le_of_ble_eq_true rfl⟩) rfl rfl rfl rfl (Nat.le_of_ble_eq_true rfl) dX6_number_10 (fun r3 τ3 hJ => ?_)
      refine V_bipush (v := 48) C dX6_number_13 cb_48 ?_
      refine V_bipush (v := 57) C dX6_number_15 cb_57 ?_
      refine V_cSi (st := []) C (M_X6_in l D tc ad A r3 48 57 hJ) (va_cwS 3 C.1.2.2.2.2 gX6_number_X6_in rfl rfl rfl (by decide +kernel) ⟨Nat.le_of_ble_eq_true rfl, Nat.le_of_ble_eq_true rfl⟩) rfl rfl (Nat.le_of_ble_eq_true rfl) dX6_number_17 (fun r4 τ4 hJ => ?_)
      obtain ⟨hJt, hJf⟩ := hJ
      refine V_if_eq C (tgt := 63) dX6_number_20 rfl (fun hc5 => ?_) (fun hc5 => ?_)
      · have hJ := hJt hc5; clear hJt hJf
        refine V_aload_n C dX6_number_63 0 rfl ?_
        refine V_get (ci := 6) C okM_0 uX6 rfl 10 (Nat.le_of_ble_eq_true rfl) rfl rfl f132 dX6_number_64 ?_
        refine V_iload C dX6_number_67 4 rfl ?_
        obtain ⟨hJt, hJf⟩ := hJ
        refine V_icmp_le C (tgt := 109) dX6_number_69 rfl (fun hc6 => ?_) (fun hc6 => ?_)
        · have hJ := hJt hc6; clear hJt hJf
          refine V_iconst (v := 0) C dX6_number_109 ci_0 ?_
          refine V_sub (lv' := [(0, .ref (ad (0, 0, 0))), (1, .int x1), (4, .int x4_1), (5, .int x5_2)]) [0, 1, 4, 5] rfl ?_
          exact B110 x1 x4_1 x5_2 0 τ4 hJ
        · have hJ := hJf hc6; clear hJt hJf
          refine V_aload_n C dX6_number_72 0 rfl ?_
          refine V_get (ci := 6) C okM_0 uX6 rfl 4 (Nat.le_of_ble_eq_true rfl) rfl rfl f23 dX6_number_73 ?_
          refine V_iload C dX6_number_76 4 rfl ?_
          obtain ⟨hv16, hJ⟩ := hJ
          refine V_iald C okM_5 0 rfl rfl rfl hv16 dX6_number_78 ?_
          refine V_bipush (v := 48) C dX6_number_79 cb_48 ?_
          obtain ⟨hJt, hJf⟩ := hJ
          refine V_icmp_ne C (tgt := 95) dX6_number_81 rfl (fun hc17 => ?_) (fun hc17 => ?_)
          · have hJ := hJt hc17; clear hJt hJf
            exact B95 x1 x2 x3 x4_1 x5_2 τ4 hJ
          · have hJ := hJf hc17; clear hJt hJf
            refine V_aload_n C dX6_number_84 0 rfl ?_
            refine V_get (ci := 6) C okM_0 uX6 rfl 10 (Nat.le_of_ble_eq_true rfl) rfl rfl f132 dX6_number_85 ?_
            refine V_iload C dX6_number_88 4 rfl ?_
            refine V_iconst (v := 1) C dX6_number_90 ci_1 ?_
            refine V_iadd C dX6_number_91 ?_
            obtain ⟨hJt, hJf⟩ := hJ
            refine V_icmp_ne C (tgt := 109) dX6_number_92 rfl (fun hc20 => ?_) (fun hc20 => ?_)
            · have hJ := hJt hc20; clear hJt hJf
              refine V_iconst (v := 0) C dX6_number_109 ci_0 ?_
              refine V_sub (lv' := [(0, .ref (ad (0, 0, 0))), (1, .int x1), (4, .int x4_1), (5, .int x5_2)]) [0, 1, 4, 5] rfl ?_
              exact B110 x1 x4_1 x5_2 0 τ4 hJ
            · have hJ := hJf hc20; clear hJt hJf
              exact B95 x1 x2 x3 x4_1 x5_2 τ4 hJ
      · have hJ := hJf hc5; clear hJt hJf
        refine V_iload C dX6_number_23 5 rfl ?_
        refine V_ldc (v := 100000) C (List.mem_of_getElem? (i := 2) rfl) dX6_number_25 ?_
        obtain ⟨hJt, hJf⟩ := hJ
        refine V_icmp_ge C (tgt := 46) dX6_number_27 rfl (fun hc21 => ?_) (fun hc21 => ?_)
        · have hJ := hJt hc21; clear hJt hJf
          refine V_iload C dX6_number_46 5 rfl ?_
          refine V_istore (lv' := [(5, .int x5_2), (0, .ref (ad (0, 0, 0))), (1, .int x1), (2, .int x2), (3, .int x3), (4, .int x4_1)]) C dX6_number_48 (by decide) rfl ?_
          refine V_aload_n C dX6_number_50 1 rfl ?_
          refine V_dup C dX6_number_51 rfl ?_
          refine V_get (ci := 6) C okM_0 uX6 rfl 10 (Nat.le_of_ble_eq_true rfl) rfl rfl f132 dX6_number_52 ?_
          refine V_iconst (v := 1) C dX6_number_55 ci_1 ?_
          refine V_iadd C dX6_number_56 ?_
          refine V_put (ci := 6) C okM_0 uX6 tyX6 tyX6_ok nmX6 rfl 10 (Nat.le_of_ble_eq_true rfl) rfl rfl f132 rfl (ty := .int) (by decide +kernel) rfl rfl (Nat.le_of_ble_eq_true rfl) dX6_number_57 (fun τ22 hτ22 => ?_)
          replace hJ := hJ τ22 hτ22
          refine V_goto C (tgt := 9) dX6_number_60 rfl ?_
          refine V_sub (lv' := [(0, .ref (ad (0, 0, 0))), (1, .int x1), (2, .int x2), (3, .int x3), (4, .int x4_1), (5, .int x5_2)]) [1, 2, 3, 4, 5, 0] rfl ?_
          exact ih9 x5_2 τ22 (Nat.lt_of_lt_of_le hJ.2 (Nat.le_of_lt_succ hμ9)) hJ.1
        · have hJ := hJf hc21; clear hJt hJf
          refine V_bipush (v := 10) C dX6_number_30 cb_10 ?_
          refine V_iload C dX6_number_32 5 rfl ?_
          refine V_imul C dX6_number_34 ?_
          refine V_aload_n C dX6_number_35 0 rfl ?_
          refine V_cVi (st := [.int (10 * x5_2)]) (ci := 6) C okM_0 (M_X6_here l D tc ad A  hJ) (cwV 0 C.1.2.2.2.2 gX6_number_X6_here rfl rfl rfl (by decide +kernel) ⟨Nat.le_of_ble_eq_true rfl, Nat.le_of_ble_eq_true rfl⟩) rfl rfl rfl rfl (Nat.le_of_ble_eq_true rfl) dX6_number_36 (fun r23 τ23 hJ => ?_)
          refine V_iadd C dX6_number_39 ?_
          refine V_bipush (v := 48) C dX6_number_40 cb_48 ?_
          refine V_isub C dX6_number_42 ?_
          refine V_goto C (tgt := 48) dX6_number_43 rfl ?_
          refine V_topi (fun x5_24 hx5_24 => ?_)
          replace hJ := hJ x5_24 hx5_24
          refine V_istore (lv' := [(5, .int x5_24), (0, .ref (ad (0, 0, 0))), (1, .int x1), (2, .int x2), (3, .int x3), (4, .int x4_1)]) C dX6_number_48 (by decide) rfl ?_
          refine V_aload_n C dX6_number_50 1 rfl ?_
          refine V_dup C dX6_number_51 rfl ?_
          refine V_get (ci := 6) C okM_0 uX6 rfl 10 (Nat.le_of_ble_eq_true rfl) rfl rfl f132 dX6_number_52 ?_
          refine V_iconst (v := 1) C dX6_number_55 ci_1 ?_
          refine V_iadd C dX6_number_56 ?_
          refine V_put (ci := 6) C okM_0 uX6 tyX6 tyX6_ok nmX6 rfl 10 (Nat.le_of_ble_eq_true rfl) rfl rfl f132 rfl (ty := .int) (by decide +kernel) rfl rfl (Nat.le_of_ble_eq_true rfl) dX6_number_57 (fun τ25 hτ25 => ?_)
          replace hJ := hJ τ25 hτ25
          refine V_goto C (tgt := 9) dX6_number_60 rfl ?_
          refine V_sub (lv' := [(0, .ref (ad (0, 0, 0))), (1, .int x1), (2, .int x2), (3, .int x3), (4, .int x4_1), (5, .int x5_24)]) [1, 2, 3, 4, 5, 0] rfl ?_
          exact ih9 x5_24 τ25 (Nat.lt_of_lt_of_le hJ.2 (Nat.le_of_lt_succ hμ9)) hJ.1
  exact L9 _ 0 σ (Nat.lt_succ_self _) hI9
set_option maxHeartbeats 4000000 in
set_option maxRecDepth 100000 in
theorem M_X6_takes (l : Launch) (D : va_G) (tc : Nat → ClassId) (ad : Oid → Nat) (A : Nat → Prop) (x1 : Int32) {σ : Mem} {Qr : Int32 → Mem → Prop} (hJ : J_X6_takes x1 σ Qr) : Met l yX6_takes wsX6_takes ({ frames := 1, cells := 0, slots := 0, locals := 20 }) (va_Pc [.ref (ad (0, 0, 0)), .int x1] (WdI D vwCl (tysX tc) idsM ad (ceM tc ad) A σ)) (va_Qi (fun (r : Int32) (u : Mem) => Qr r u) (WdO D vwCl idsM ad (ceM tc ad) A) A) 0 0 A := by
  refine V_meti (cc := cX6_takes) (nL := 3) (ret := (some .boolean)) (own := RX6) rfl (plainFor_of_name (by decide)) rfl rfl (Nat.le_of_ble_eq_true rfl) ?_
  intro p e s m below meth c C hr hlocks
  refine V_sub (lv' := [(0, .ref (ad (0, 0, 0))), (1, .int x1)]) [0, 1] rfl ?_
  have f132 : Cond.fieldLink RX6 132 (TX6 10).1 (TX6 10).2.1 (TX6 10).2.2.1 ∈ wsX6_takes := List.mem_of_getElem? (i := 1) rfl
  have uX6 : ∀ w ∈ u_ws RX6 TX6 12, w ∈ wsX6_takes := by decide +kernel
  have B13 : ∀ (t0 : Int32) (τ : Mem), J_X6_takes_b13 x1  t0 τ Qr → VV p l e (headSpec wsX6_takes ({ frames := 1, cells := 0, slots := 0, locals := 20 })).room s m ([.ref (ad (0, 0, 0)), .int x1] : List Value).toArray below meth c D vwCl idsM ad (ceM tc ad) A (MQ below (va_Qi (fun (r : Int32) (u : Mem) => Qr r u) (WdO D vwCl idsM ad (ceM tc ad) A) A) ([.ref (ad (0, 0, 0)), .int x1] : List Value).toArray s 0 0 A) 3 13 [(0, .ref (ad (0, 0, 0)))] [.int t0] τ := by
    intro t0 τ hJ
    unfold J_X6_takes_b13 at hJ
    refine V_istore_n (lv' := [(2, .int t0), (0, .ref (ad (0, 0, 0)))]) C dX6_takes_13 (by decide) rfl ?_
    refine V_aload_n C dX6_takes_14 1 rfl ?_
    refine V_dup C dX6_takes_15 rfl ?_
    refine V_get (ci := 6) C okM_0 uX6 rfl 10 (Nat.le_of_ble_eq_true rfl) rfl rfl f132 dX6_takes_16 ?_
    refine V_iload_n C dX6_takes_19 0 rfl ?_
    obtain ⟨hJt, hJf⟩ := hJ
    refine V_if_eq C (tgt := 27) dX6_takes_20 rfl (fun hc3 => ?_) (fun hc3 => ?_)
    · have hJ := hJt hc3; clear hJt hJf
      refine V_iconst (v := 0) C dX6_takes_27 ci_0 ?_
      refine V_iadd C dX6_takes_28 ?_
      refine V_put (ci := 6) C okM_0 uX6 tyX6 tyX6_ok nmX6 rfl 10 (Nat.le_of_ble_eq_true rfl) rfl rfl f132 rfl (ty := .int) (by decide +kernel) rfl rfl (Nat.le_of_ble_eq_true rfl) dX6_takes_29 (fun τ4 hτ4 => ?_)
      replace hJ := hJ τ4 hτ4
      refine V_iload_n C dX6_takes_32 0 rfl ?_
      obtain ⟨hb5, hJ⟩ := hJ
      exact V_zret C hr hlocks hb5 dX6_takes_33 hJ
    · have hJ := hJf hc3; clear hJt hJf
      refine V_iconst (v := 1) C dX6_takes_23 ci_1 ?_
      refine V_goto C (tgt := 28) dX6_takes_24 rfl ?_
      refine V_iadd C dX6_takes_28 ?_
      refine V_put (ci := 6) C okM_0 uX6 tyX6 tyX6_ok nmX6 rfl 10 (Nat.le_of_ble_eq_true rfl) rfl rfl f132 rfl (ty := .int) (by decide +kernel) rfl rfl (Nat.le_of_ble_eq_true rfl) dX6_takes_29 (fun τ6 hτ6 => ?_)
      replace hJ := hJ τ6 hτ6
      refine V_iload_n C dX6_takes_32 0 rfl ?_
      obtain ⟨hb7, hJ⟩ := hJ
      exact V_zret C hr hlocks hb7 dX6_takes_33 hJ
  unfold J_X6_takes at hJ
  refine V_aload_n C dX6_takes_0 0 rfl ?_
  refine V_cVi (st := []) (ci := 6) C okM_0 (M_X6_here l D tc ad A  hJ) (cwV 0 C.1.2.2.2.2 gX6_takes_X6_here rfl rfl rfl (by decide +kernel) ⟨Nat.le_of_ble_eq_true rfl, Nat.le_of_ble_eq_true rfl⟩) rfl rfl rfl rfl (Nat.le_of_ble_eq_true rfl) dX6_takes_1 (fun r1 τ1 hJ => ?_)
  refine V_iload_n C dX6_takes_4 1 rfl ?_
  obtain ⟨hJt, hJf⟩ := hJ
  refine V_icmp_ne C (tgt := 12) dX6_takes_5 rfl (fun hc2 => ?_) (fun hc2 => ?_)
  · have hJ := hJt hc2; clear hJt hJf
    refine V_iconst (v := 0) C dX6_takes_12 ci_0 ?_
    refine V_sub (lv' := [(0, .ref (ad (0, 0, 0)))]) [0] rfl ?_
    exact B13 0 τ1 hJ
  · have hJ := hJf hc2; clear hJt hJf
    refine V_iconst (v := 1) C dX6_takes_8 ci_1 ?_
    refine V_goto C (tgt := 13) dX6_takes_9 rfl ?_
    refine V_sub (lv' := [(0, .ref (ad (0, 0, 0)))]) [0] rfl ?_
    exact B13 1 τ1 hJ
set_option maxHeartbeats 4000000 in
set_option maxRecDepth 100000 in
theorem M_X6_isDitchOrder (l : Launch) (D : va_G) (tc : Nat → ClassId) (ad : Oid → Nat) (A : Nat → Prop) {σ : Mem} {Qr : Int32 → Mem → Prop} (hJ : J_X6_isDitchOrder σ Qr) : Met l yX6_isDitchOrder wsX6_isDitchOrder ({ frames := 2, cells := 0, slots := 0, locals := 48 }) (va_Pc [.ref (ad (0, 0, 0))] (WdI D vwCl (tysX tc) idsM ad (ceM tc ad) A σ)) (va_Qi (fun (r : Int32) (u : Mem) => Qr r u) (WdO D vwCl idsM ad (ceM tc ad) A) A) 0 0 A := by
  refine V_meti (cc := cX6_isDitchOrder) (nL := 2) (ret := (some .boolean)) (own := RX6) rfl (plainFor_of_name (by decide)) rfl rfl (Nat.le_of_ble_eq_true rfl) ?_
  intro p e s m below meth c C hr hlocks
  refine V_sub (lv' := [(0, .ref (ad (0, 0, 0)))]) [0] rfl ?_
  have f7 : Cond.fieldLink RX6 7 (TX6 0).1 (TX6 0).2.1 (TX6 0).2.2.1 ∈ wsX6_isDitchOrder := List.mem_of_getElem? (i := 1) rfl
  have uX6 : ∀ w ∈ u_ws RX6 TX6 12, w ∈ wsX6_isDitchOrder := by decide +kernel
  have B43 : ∀ (t0 : Int32) (τ : Mem), J_X6_isDitchOrder_b43   t0 τ Qr → VV p l e (headSpec wsX6_isDitchOrder ({ frames := 2, cells := 0, slots := 0, locals := 48 })).room s m ([.ref (ad (0, 0, 0))] : List Value).toArray below meth c D vwCl idsM ad (ceM tc ad) A (MQ below (va_Qi (fun (r : Int32) (u : Mem) => Qr r u) (WdO D vwCl idsM ad (ceM tc ad) A) A) ([.ref (ad (0, 0, 0))] : List Value).toArray s 0 0 A) 2 43 [(0, .ref (ad (0, 0, 0)))] [.int t0] τ := by
    intro t0 τ hJ
    unfold J_X6_isDitchOrder_b43 at hJ
    refine V_istore_n (lv' := [(1, .int t0), (0, .ref (ad (0, 0, 0)))]) C dX6_isDitchOrder_43 (by decide) rfl ?_
    refine V_iload_n C dX6_isDitchOrder_44 0 rfl ?_
    obtain ⟨hJt, hJf⟩ := hJ
    refine V_if_eq C (tgt := 81) dX6_isDitchOrder_45 rfl (fun hc3 => ?_) (fun hc3 => ?_)
    · have hJ := hJt hc3; clear hJt hJf
      refine V_iconst (v := 0) C dX6_isDitchOrder_81 ci_0 ?_
      exact V_zret C hr hlocks (Or.inl rfl) dX6_isDitchOrder_82 hJ
    · have hJ := hJf hc3; clear hJt hJf
      refine V_aload_n C dX6_isDitchOrder_48 1 rfl ?_
      refine V_bipush (v := 46) C dX6_isDitchOrder_49 cb_46 ?_
      refine V_cVi (st := []) (ci := 6) C okM_0 (M_X6_takes l D tc ad A 46 hJ) (cwV 1 C.1.2.2.2.2 gX6_isDitchOrder_X6_takes rfl rfl rfl (by decide +kernel) ⟨Nat.le_of_ble_eq_true rfl, Nat.le_of_ble_eq_true rfl⟩) rfl rfl rfl rfl (Nat.le_of_ble_eq_true rfl) dX6_isDitchOrder_51 (fun r4 τ4 hJ => ?_)
      obtain ⟨hJt, hJf⟩ := hJ
      refine V_if_eq C (tgt := 81) dX6_isDitchOrder_54 rfl (fun hc5 => ?_) (fun hc5 => ?_)
      · have hJ := hJt hc5; clear hJt hJf
        refine V_iconst (v := 0) C dX6_isDitchOrder_81 ci_0 ?_
        exact V_zret C hr hlocks (Or.inl rfl) dX6_isDitchOrder_82 hJ
      · have hJ := hJf hc5; clear hJt hJf
        refine V_aload_n C dX6_isDitchOrder_57 1 rfl ?_
        refine V_iconst (v := 2) C dX6_isDitchOrder_58 ci_2 ?_
        refine V_iconst (v := 0) C dX6_isDitchOrder_59 ci_0 ?_
        refine V_bipush (v := 50) C dX6_isDitchOrder_60 cb_50 ?_
        refine V_cVi (st := []) (ci := 6) C okM_0 (M_X6_number l D tc ad A 2 0 50 hJ) (cwV 3 C.1.2.2.2.2 gX6_isDitchOrder_X6_number rfl rfl rfl (by decide +kernel) ⟨Nat.le_of_ble_eq_true rfl, Nat.le_of_ble_eq_true rfl⟩) rfl rfl rfl rfl (Nat.le_of_ble_eq_true rfl) dX6_isDitchOrder_62 (fun r6 τ6 hJ => ?_)
        obtain ⟨hJt, hJf⟩ := hJ
        refine V_if_eq C (tgt := 81) dX6_isDitchOrder_65 rfl (fun hc7 => ?_) (fun hc7 => ?_)
        · have hJ := hJt hc7; clear hJt hJf
          refine V_iconst (v := 0) C dX6_isDitchOrder_81 ci_0 ?_
          exact V_zret C hr hlocks (Or.inl rfl) dX6_isDitchOrder_82 hJ
        · have hJ := hJf hc7; clear hJt hJf
          refine V_aload_n C dX6_isDitchOrder_68 1 rfl ?_
          refine V_bipush (v := 59) C dX6_isDitchOrder_69 cb_59 ?_
          refine V_cVi (st := []) (ci := 6) C okM_0 (M_X6_takes l D tc ad A 59 hJ) (cwV 1 C.1.2.2.2.2 gX6_isDitchOrder_X6_takes rfl rfl rfl (by decide +kernel) ⟨Nat.le_of_ble_eq_true rfl, Nat.le_of_ble_eq_true rfl⟩) rfl rfl rfl rfl (Nat.le_of_ble_eq_true rfl) dX6_isDitchOrder_71 (fun r8 τ8 hJ => ?_)
          obtain ⟨hJt, hJf⟩ := hJ
          refine V_if_eq C (tgt := 81) dX6_isDitchOrder_74 rfl (fun hc9 => ?_) (fun hc9 => ?_)
          · have hJ := hJt hc9; clear hJt hJf
            refine V_iconst (v := 0) C dX6_isDitchOrder_81 ci_0 ?_
            exact V_zret C hr hlocks (Or.inl rfl) dX6_isDitchOrder_82 hJ
          · have hJ := hJf hc9; clear hJt hJf
            refine V_iconst (v := 1) C dX6_isDitchOrder_77 ci_1 ?_
            refine V_goto C (tgt := 82) dX6_isDitchOrder_78 rfl ?_
            exact V_zret C hr hlocks (Or.inr rfl) dX6_isDitchOrder_82 hJ
  unfold J_X6_isDitchOrder at hJ
  refine V_aload_n C dX6_isDitchOrder_0 0 rfl ?_
  refine V_iconst (v := 0) C dX6_isDitchOrder_1 ci_0 ?_
  refine V_iconst (v := 0) C dX6_isDitchOrder_2 ci_0 ?_
  refine V_aload_n C dX6_isDitchOrder_3 0 rfl ?_
  refine V_get (ci := 6) C okM_0 uX6 rfl 0 (Nat.le_of_ble_eq_true rfl) rfl rfl f7 dX6_isDitchOrder_4 ?_
  refine V_iconst (v := 1) C dX6_isDitchOrder_7 ci_1 ?_
  refine V_iald C okM_1 0 rfl rfl ix_1 vpc_1_214 dX6_isDitchOrder_8 ?_
  refine V_iconst (v := 1) C dX6_isDitchOrder_9 ci_1 ?_
  refine V_isub C dX6_isDitchOrder_10 ?_
  refine V_cVi (st := []) (ci := 6) C okM_0 (M_X6_number l D tc ad A 0 0 ((σ (1, 0, 0) 1) - 1) hJ) (cwV 3 C.1.2.2.2.2 gX6_isDitchOrder_X6_number rfl rfl rfl (by decide +kernel) ⟨Nat.le_of_ble_eq_true rfl, Nat.le_of_ble_eq_true rfl⟩) rfl rfl rfl rfl (Nat.le_of_ble_eq_true rfl) dX6_isDitchOrder_11 (fun r1 τ1 hJ => ?_)
  obtain ⟨hJt, hJf⟩ := hJ
  refine V_if_eq C (tgt := 42) dX6_isDitchOrder_14 rfl (fun hc2 => ?_) (fun hc2 => ?_)
  · have hJ := hJt hc2; clear hJt hJf
    refine V_iconst (v := 0) C dX6_isDitchOrder_42 ci_0 ?_
    exact B43 0 τ1 hJ
  · have hJ := hJf hc2; clear hJt hJf
    refine V_aload_n C dX6_isDitchOrder_17 0 rfl ?_
    refine V_bipush (v := 46) C dX6_isDitchOrder_18 cb_46 ?_
    refine V_cVi (st := []) (ci := 6) C okM_0 (M_X6_takes l D tc ad A 46 hJ) (cwV 1 C.1.2.2.2.2 gX6_isDitchOrder_X6_takes rfl rfl rfl (by decide +kernel) ⟨Nat.le_of_ble_eq_true rfl, Nat.le_of_ble_eq_true rfl⟩) rfl rfl rfl rfl (Nat.le_of_ble_eq_true rfl) dX6_isDitchOrder_20 (fun r10 τ10 hJ => ?_)
    obtain ⟨hJt, hJf⟩ := hJ
    refine V_if_eq C (tgt := 42) dX6_isDitchOrder_23 rfl (fun hc11 => ?_) (fun hc11 => ?_)
    · have hJ := hJt hc11; clear hJt hJf
      refine V_iconst (v := 0) C dX6_isDitchOrder_42 ci_0 ?_
      exact B43 0 τ10 hJ
    · have hJ := hJf hc11; clear hJt hJf
      refine V_aload_n C dX6_isDitchOrder_26 0 rfl ?_
      refine V_iconst (v := 1) C dX6_isDitchOrder_27 ci_1 ?_
      refine V_iconst (v := 1) C dX6_isDitchOrder_28 ci_1 ?_
      refine V_sipush (v := 200) C dX6_isDitchOrder_29 cs_200 ?_
      refine V_cVi (st := []) (ci := 6) C okM_0 (M_X6_number l D tc ad A 1 1 200 hJ) (cwV 3 C.1.2.2.2.2 gX6_isDitchOrder_X6_number rfl rfl rfl (by decide +kernel) ⟨Nat.le_of_ble_eq_true rfl, Nat.le_of_ble_eq_true rfl⟩) rfl rfl rfl rfl (Nat.le_of_ble_eq_true rfl) dX6_isDitchOrder_32 (fun r12 τ12 hJ => ?_)
      obtain ⟨hJt, hJf⟩ := hJ
      refine V_if_eq C (tgt := 42) dX6_isDitchOrder_35 rfl (fun hc13 => ?_) (fun hc13 => ?_)
      · have hJ := hJt hc13; clear hJt hJf
        refine V_iconst (v := 0) C dX6_isDitchOrder_42 ci_0 ?_
        exact B43 0 τ12 hJ
      · have hJ := hJf hc13; clear hJt hJf
        refine V_iconst (v := 1) C dX6_isDitchOrder_38 ci_1 ?_
        refine V_goto C (tgt := 43) dX6_isDitchOrder_39 rfl ?_
        exact B43 1 τ12 hJ
set_option maxHeartbeats 4000000 in
set_option maxRecDepth 100000 in
theorem M_X6_isUserOrder (l : Launch) (D : va_G) (tc : Nat → ClassId) (ad : Oid → Nat) (A : Nat → Prop) {σ : Mem} {Qr : Int32 → Mem → Prop} (hJ : J_X6_isUserOrder σ Qr) : Met l yX6_isUserOrder wsX6_isUserOrder ({ frames := 2, cells := 0, slots := 0, locals := 48 }) (va_Pc [.ref (ad (0, 0, 0))] (WdI D vwCl (tysX tc) idsM ad (ceM tc ad) A σ)) (va_Qi (fun (r : Int32) (u : Mem) => Qr r u) (WdO D vwCl idsM ad (ceM tc ad) A) A) 0 0 A := by
  refine V_meti (cc := cX6_isUserOrder) (nL := 2) (ret := (some .boolean)) (own := RX6) rfl (plainFor_of_name (by decide)) rfl rfl (Nat.le_of_ble_eq_true rfl) ?_
  intro p e s m below meth c C hr hlocks
  refine V_sub (lv' := [(0, .ref (ad (0, 0, 0)))]) [0] rfl ?_
  have f7 : Cond.fieldLink RX6 7 (TX6 0).1 (TX6 0).2.1 (TX6 0).2.2.1 ∈ wsX6_isUserOrder := List.mem_of_getElem? (i := 1) rfl
  have uX6 : ∀ w ∈ u_ws RX6 TX6 12, w ∈ wsX6_isUserOrder := by decide +kernel
  have B45 : ∀ (t0 : Int32) (τ : Mem), J_X6_isUserOrder_b45   t0 τ Qr → VV p l e (headSpec wsX6_isUserOrder ({ frames := 2, cells := 0, slots := 0, locals := 48 })).room s m ([.ref (ad (0, 0, 0))] : List Value).toArray below meth c D vwCl idsM ad (ceM tc ad) A (MQ below (va_Qi (fun (r : Int32) (u : Mem) => Qr r u) (WdO D vwCl idsM ad (ceM tc ad) A) A) ([.ref (ad (0, 0, 0))] : List Value).toArray s 0 0 A) 2 45 [(0, .ref (ad (0, 0, 0)))] [.int t0] τ := by
    intro t0 τ hJ
    unfold J_X6_isUserOrder_b45 at hJ
    refine V_istore_n (lv' := [(1, .int t0), (0, .ref (ad (0, 0, 0)))]) C dX6_isUserOrder_45 (by decide) rfl ?_
    refine V_iload_n C dX6_isUserOrder_46 0 rfl ?_
    obtain ⟨hJt, hJf⟩ := hJ
    refine V_if_eq C (tgt := 83) dX6_isUserOrder_47 rfl (fun hc3 => ?_) (fun hc3 => ?_)
    · have hJ := hJt hc3; clear hJt hJf
      refine V_iconst (v := 0) C dX6_isUserOrder_83 ci_0 ?_
      exact V_zret C hr hlocks (Or.inl rfl) dX6_isUserOrder_84 hJ
    · have hJ := hJf hc3; clear hJt hJf
      refine V_aload_n C dX6_isUserOrder_50 1 rfl ?_
      refine V_bipush (v := 46) C dX6_isUserOrder_51 cb_46 ?_
      refine V_cVi (st := []) (ci := 6) C okM_0 (M_X6_takes l D tc ad A 46 hJ) (cwV 1 C.1.2.2.2.2 gX6_isUserOrder_X6_takes rfl rfl rfl (by decide +kernel) ⟨Nat.le_of_ble_eq_true rfl, Nat.le_of_ble_eq_true rfl⟩) rfl rfl rfl rfl (Nat.le_of_ble_eq_true rfl) dX6_isUserOrder_53 (fun r4 τ4 hJ => ?_)
      obtain ⟨hJt, hJf⟩ := hJ
      refine V_if_eq C (tgt := 83) dX6_isUserOrder_56 rfl (fun hc5 => ?_) (fun hc5 => ?_)
      · have hJ := hJt hc5; clear hJt hJf
        refine V_iconst (v := 0) C dX6_isUserOrder_83 ci_0 ?_
        exact V_zret C hr hlocks (Or.inl rfl) dX6_isUserOrder_84 hJ
      · have hJ := hJf hc5; clear hJt hJf
        refine V_aload_n C dX6_isUserOrder_59 1 rfl ?_
        refine V_iconst (v := 2) C dX6_isUserOrder_60 ci_2 ?_
        refine V_iconst (v := 0) C dX6_isUserOrder_61 ci_0 ?_
        refine V_bipush (v := 60) C dX6_isUserOrder_62 cb_60 ?_
        refine V_cVi (st := []) (ci := 6) C okM_0 (M_X6_number l D tc ad A 2 0 60 hJ) (cwV 3 C.1.2.2.2.2 gX6_isUserOrder_X6_number rfl rfl rfl (by decide +kernel) ⟨Nat.le_of_ble_eq_true rfl, Nat.le_of_ble_eq_true rfl⟩) rfl rfl rfl rfl (Nat.le_of_ble_eq_true rfl) dX6_isUserOrder_64 (fun r6 τ6 hJ => ?_)
        obtain ⟨hJt, hJf⟩ := hJ
        refine V_if_eq C (tgt := 83) dX6_isUserOrder_67 rfl (fun hc7 => ?_) (fun hc7 => ?_)
        · have hJ := hJt hc7; clear hJt hJf
          refine V_iconst (v := 0) C dX6_isUserOrder_83 ci_0 ?_
          exact V_zret C hr hlocks (Or.inl rfl) dX6_isUserOrder_84 hJ
        · have hJ := hJf hc7; clear hJt hJf
          refine V_aload_n C dX6_isUserOrder_70 1 rfl ?_
          refine V_bipush (v := 59) C dX6_isUserOrder_71 cb_59 ?_
          refine V_cVi (st := []) (ci := 6) C okM_0 (M_X6_takes l D tc ad A 59 hJ) (cwV 1 C.1.2.2.2.2 gX6_isUserOrder_X6_takes rfl rfl rfl (by decide +kernel) ⟨Nat.le_of_ble_eq_true rfl, Nat.le_of_ble_eq_true rfl⟩) rfl rfl rfl rfl (Nat.le_of_ble_eq_true rfl) dX6_isUserOrder_73 (fun r8 τ8 hJ => ?_)
          obtain ⟨hJt, hJf⟩ := hJ
          refine V_if_eq C (tgt := 83) dX6_isUserOrder_76 rfl (fun hc9 => ?_) (fun hc9 => ?_)
          · have hJ := hJt hc9; clear hJt hJf
            refine V_iconst (v := 0) C dX6_isUserOrder_83 ci_0 ?_
            exact V_zret C hr hlocks (Or.inl rfl) dX6_isUserOrder_84 hJ
          · have hJ := hJf hc9; clear hJt hJf
            refine V_iconst (v := 1) C dX6_isUserOrder_79 ci_1 ?_
            refine V_goto C (tgt := 84) dX6_isUserOrder_80 rfl ?_
            exact V_zret C hr hlocks (Or.inr rfl) dX6_isUserOrder_84 hJ
  unfold J_X6_isUserOrder at hJ
  refine V_aload_n C dX6_isUserOrder_0 0 rfl ?_
  refine V_iconst (v := 0) C dX6_isUserOrder_1 ci_0 ?_
  refine V_iconst (v := 0) C dX6_isUserOrder_2 ci_0 ?_
  refine V_aload_n C dX6_isUserOrder_3 0 rfl ?_
  refine V_get (ci := 6) C okM_0 uX6 rfl 0 (Nat.le_of_ble_eq_true rfl) rfl rfl f7 dX6_isUserOrder_4 ?_
  refine V_iconst (v := 1) C dX6_isUserOrder_7 ci_1 ?_
  refine V_iald C okM_1 0 rfl rfl ix_1 vpc_1_214 dX6_isUserOrder_8 ?_
  refine V_iconst (v := 1) C dX6_isUserOrder_9 ci_1 ?_
  refine V_isub C dX6_isUserOrder_10 ?_
  refine V_cVi (st := []) (ci := 6) C okM_0 (M_X6_number l D tc ad A 0 0 ((σ (1, 0, 0) 1) - 1) hJ) (cwV 3 C.1.2.2.2.2 gX6_isUserOrder_X6_number rfl rfl rfl (by decide +kernel) ⟨Nat.le_of_ble_eq_true rfl, Nat.le_of_ble_eq_true rfl⟩) rfl rfl rfl rfl (Nat.le_of_ble_eq_true rfl) dX6_isUserOrder_11 (fun r1 τ1 hJ => ?_)
  obtain ⟨hJt, hJf⟩ := hJ
  refine V_if_eq C (tgt := 44) dX6_isUserOrder_14 rfl (fun hc2 => ?_) (fun hc2 => ?_)
  · have hJ := hJt hc2; clear hJt hJf
    refine V_iconst (v := 0) C dX6_isUserOrder_44 ci_0 ?_
    exact B45 0 τ1 hJ
  · have hJ := hJf hc2; clear hJt hJf
    refine V_aload_n C dX6_isUserOrder_17 0 rfl ?_
    refine V_bipush (v := 46) C dX6_isUserOrder_18 cb_46 ?_
    refine V_cVi (st := []) (ci := 6) C okM_0 (M_X6_takes l D tc ad A 46 hJ) (cwV 1 C.1.2.2.2.2 gX6_isUserOrder_X6_takes rfl rfl rfl (by decide +kernel) ⟨Nat.le_of_ble_eq_true rfl, Nat.le_of_ble_eq_true rfl⟩) rfl rfl rfl rfl (Nat.le_of_ble_eq_true rfl) dX6_isUserOrder_20 (fun r10 τ10 hJ => ?_)
    obtain ⟨hJt, hJf⟩ := hJ
    refine V_if_eq C (tgt := 44) dX6_isUserOrder_23 rfl (fun hc11 => ?_) (fun hc11 => ?_)
    · have hJ := hJt hc11; clear hJt hJf
      refine V_iconst (v := 0) C dX6_isUserOrder_44 ci_0 ?_
      exact B45 0 τ10 hJ
    · have hJ := hJf hc11; clear hJt hJf
      refine V_aload_n C dX6_isUserOrder_26 0 rfl ?_
      refine V_iconst (v := 1) C dX6_isUserOrder_27 ci_1 ?_
      refine V_sipush (v := 1800) C dX6_isUserOrder_28 cs_1800 ?_
      refine V_sipush (v := 2099) C dX6_isUserOrder_31 cs_2099 ?_
      refine V_cVi (st := []) (ci := 6) C okM_0 (M_X6_number l D tc ad A 1 1800 2099 hJ) (cwV 3 C.1.2.2.2.2 gX6_isUserOrder_X6_number rfl rfl rfl (by decide +kernel) ⟨Nat.le_of_ble_eq_true rfl, Nat.le_of_ble_eq_true rfl⟩) rfl rfl rfl rfl (Nat.le_of_ble_eq_true rfl) dX6_isUserOrder_34 (fun r12 τ12 hJ => ?_)
      obtain ⟨hJt, hJf⟩ := hJ
      refine V_if_eq C (tgt := 44) dX6_isUserOrder_37 rfl (fun hc13 => ?_) (fun hc13 => ?_)
      · have hJ := hJt hc13; clear hJt hJf
        refine V_iconst (v := 0) C dX6_isUserOrder_44 ci_0 ?_
        exact B45 0 τ12 hJ
      · have hJ := hJf hc13; clear hJt hJf
        refine V_iconst (v := 1) C dX6_isUserOrder_40 ci_1 ?_
        refine V_goto C (tgt := 45) dX6_isUserOrder_41 rfl ?_
        exact B45 1 τ12 hJ
set_option maxHeartbeats 4000000 in
set_option maxRecDepth 100000 in
theorem M_X6_isSupplyOrder (l : Launch) (D : va_G) (tc : Nat → ClassId) (ad : Oid → Nat) (A : Nat → Prop) {σ : Mem} {Qr : Int32 → Mem → Prop} (hJ : J_X6_isSupplyOrder σ Qr) : Met l yX6_isSupplyOrder wsX6_isSupplyOrder ({ frames := 2, cells := 0, slots := 0, locals := 48 }) (va_Pc [.ref (ad (0, 0, 0))] (WdI D vwCl (tysX tc) idsM ad (ceM tc ad) A σ)) (va_Qi (fun (r : Int32) (u : Mem) => Qr r u) (WdO D vwCl idsM ad (ceM tc ad) A) A) 0 0 A := by
  refine V_meti (cc := cX6_isSupplyOrder) (nL := 2) (ret := (some .boolean)) (own := RX6) rfl (plainFor_of_name (by decide)) rfl rfl (Nat.le_of_ble_eq_true rfl) ?_
  intro p e s m below meth c C hr hlocks
  refine V_sub (lv' := [(0, .ref (ad (0, 0, 0)))]) [0] rfl ?_
  have f38 : Cond.fieldLink RX6 38 (TX6 11).1 (TX6 11).2.1 (TX6 11).2.2.1 ∈ wsX6_isSupplyOrder := List.mem_of_getElem? (i := 1) rfl
  have uX6 : ∀ w ∈ u_ws RX6 TX6 12, w ∈ wsX6_isSupplyOrder := by decide +kernel
  have B43 : ∀ (t0 : Int32) (τ : Mem), J_X6_isSupplyOrder_b43   t0 τ Qr → VV p l e (headSpec wsX6_isSupplyOrder ({ frames := 2, cells := 0, slots := 0, locals := 48 })).room s m ([.ref (ad (0, 0, 0))] : List Value).toArray below meth c D vwCl idsM ad (ceM tc ad) A (MQ below (va_Qi (fun (r : Int32) (u : Mem) => Qr r u) (WdO D vwCl idsM ad (ceM tc ad) A) A) ([.ref (ad (0, 0, 0))] : List Value).toArray s 0 0 A) 2 43 [(0, .ref (ad (0, 0, 0)))] [.int t0] τ := by
    intro t0 τ hJ
    unfold J_X6_isSupplyOrder_b43 at hJ
    refine V_istore_n (lv' := [(1, .int t0), (0, .ref (ad (0, 0, 0)))]) C dX6_isSupplyOrder_43 (by decide) rfl ?_
    refine V_iload_n C dX6_isSupplyOrder_44 0 rfl ?_
    obtain ⟨hJt, hJf⟩ := hJ
    refine V_if_eq C (tgt := 82) dX6_isSupplyOrder_45 rfl (fun hc3 => ?_) (fun hc3 => ?_)
    · have hJ := hJt hc3; clear hJt hJf
      refine V_iconst (v := 0) C dX6_isSupplyOrder_82 ci_0 ?_
      exact V_zret C hr hlocks (Or.inl rfl) dX6_isSupplyOrder_83 hJ
    · have hJ := hJf hc3; clear hJt hJf
      refine V_aload_n C dX6_isSupplyOrder_48 1 rfl ?_
      refine V_bipush (v := 46) C dX6_isSupplyOrder_49 cb_46 ?_
      refine V_cVi (st := []) (ci := 6) C okM_0 (M_X6_takes l D tc ad A 46 hJ) (cwV 1 C.1.2.2.2.2 gX6_isSupplyOrder_X6_takes rfl rfl rfl (by decide +kernel) ⟨Nat.le_of_ble_eq_true rfl, Nat.le_of_ble_eq_true rfl⟩) rfl rfl rfl rfl (Nat.le_of_ble_eq_true rfl) dX6_isSupplyOrder_51 (fun r4 τ4 hJ => ?_)
      obtain ⟨hJt, hJf⟩ := hJ
      refine V_if_eq C (tgt := 82) dX6_isSupplyOrder_54 rfl (fun hc5 => ?_) (fun hc5 => ?_)
      · have hJ := hJt hc5; clear hJt hJf
        refine V_iconst (v := 0) C dX6_isSupplyOrder_82 ci_0 ?_
        exact V_zret C hr hlocks (Or.inl rfl) dX6_isSupplyOrder_83 hJ
      · have hJ := hJf hc5; clear hJt hJf
        refine V_aload_n C dX6_isSupplyOrder_57 1 rfl ?_
        refine V_iconst (v := 2) C dX6_isSupplyOrder_58 ci_2 ?_
        refine V_iconst (v := 0) C dX6_isSupplyOrder_59 ci_0 ?_
        refine V_sipush (v := 200) C dX6_isSupplyOrder_60 cs_200 ?_
        refine V_cVi (st := []) (ci := 6) C okM_0 (M_X6_number l D tc ad A 2 0 200 hJ) (cwV 3 C.1.2.2.2.2 gX6_isSupplyOrder_X6_number rfl rfl rfl (by decide +kernel) ⟨Nat.le_of_ble_eq_true rfl, Nat.le_of_ble_eq_true rfl⟩) rfl rfl rfl rfl (Nat.le_of_ble_eq_true rfl) dX6_isSupplyOrder_63 (fun r6 τ6 hJ => ?_)
        obtain ⟨hJt, hJf⟩ := hJ
        refine V_if_eq C (tgt := 82) dX6_isSupplyOrder_66 rfl (fun hc7 => ?_) (fun hc7 => ?_)
        · have hJ := hJt hc7; clear hJt hJf
          refine V_iconst (v := 0) C dX6_isSupplyOrder_82 ci_0 ?_
          exact V_zret C hr hlocks (Or.inl rfl) dX6_isSupplyOrder_83 hJ
        · have hJ := hJf hc7; clear hJt hJf
          refine V_aload_n C dX6_isSupplyOrder_69 1 rfl ?_
          refine V_bipush (v := 59) C dX6_isSupplyOrder_70 cb_59 ?_
          refine V_cVi (st := []) (ci := 6) C okM_0 (M_X6_takes l D tc ad A 59 hJ) (cwV 1 C.1.2.2.2.2 gX6_isSupplyOrder_X6_takes rfl rfl rfl (by decide +kernel) ⟨Nat.le_of_ble_eq_true rfl, Nat.le_of_ble_eq_true rfl⟩) rfl rfl rfl rfl (Nat.le_of_ble_eq_true rfl) dX6_isSupplyOrder_72 (fun r8 τ8 hJ => ?_)
          obtain ⟨hJt, hJf⟩ := hJ
          refine V_if_eq C (tgt := 82) dX6_isSupplyOrder_75 rfl (fun hc9 => ?_) (fun hc9 => ?_)
          · have hJ := hJt hc9; clear hJt hJf
            refine V_iconst (v := 0) C dX6_isSupplyOrder_82 ci_0 ?_
            exact V_zret C hr hlocks (Or.inl rfl) dX6_isSupplyOrder_83 hJ
          · have hJ := hJf hc9; clear hJt hJf
            refine V_iconst (v := 1) C dX6_isSupplyOrder_78 ci_1 ?_
            refine V_goto C (tgt := 83) dX6_isSupplyOrder_79 rfl ?_
            exact V_zret C hr hlocks (Or.inr rfl) dX6_isSupplyOrder_83 hJ
  unfold J_X6_isSupplyOrder at hJ
  refine V_aload_n C dX6_isSupplyOrder_0 0 rfl ?_
  refine V_iconst (v := 0) C dX6_isSupplyOrder_1 ci_0 ?_
  refine V_iconst (v := 0) C dX6_isSupplyOrder_2 ci_0 ?_
  refine V_bipush (v := 23) C dX6_isSupplyOrder_3 cb_23 ?_
  refine V_cVi (st := []) (ci := 6) C okM_0 (M_X6_number l D tc ad A 0 0 23 hJ) (cwV 3 C.1.2.2.2.2 gX6_isSupplyOrder_X6_number rfl rfl rfl (by decide +kernel) ⟨Nat.le_of_ble_eq_true rfl, Nat.le_of_ble_eq_true rfl⟩) rfl rfl rfl rfl (Nat.le_of_ble_eq_true rfl) dX6_isSupplyOrder_5 (fun r1 τ1 hJ => ?_)
  obtain ⟨hJt, hJf⟩ := hJ
  refine V_if_eq C (tgt := 42) dX6_isSupplyOrder_8 rfl (fun hc2 => ?_) (fun hc2 => ?_)
  · have hJ := hJt hc2; clear hJt hJf
    refine V_iconst (v := 0) C dX6_isSupplyOrder_42 ci_0 ?_
    exact B43 0 τ1 hJ
  · have hJ := hJf hc2; clear hJt hJf
    refine V_aload_n C dX6_isSupplyOrder_11 0 rfl ?_
    refine V_bipush (v := 45) C dX6_isSupplyOrder_12 cb_45 ?_
    refine V_cVi (st := []) (ci := 6) C okM_0 (M_X6_takes l D tc ad A 45 hJ) (cwV 1 C.1.2.2.2.2 gX6_isSupplyOrder_X6_takes rfl rfl rfl (by decide +kernel) ⟨Nat.le_of_ble_eq_true rfl, Nat.le_of_ble_eq_true rfl⟩) rfl rfl rfl rfl (Nat.le_of_ble_eq_true rfl) dX6_isSupplyOrder_14 (fun r10 τ10 hJ => ?_)
    obtain ⟨hJt, hJf⟩ := hJ
    refine V_if_eq C (tgt := 42) dX6_isSupplyOrder_17 rfl (fun hc11 => ?_) (fun hc11 => ?_)
    · have hJ := hJt hc11; clear hJt hJf
      refine V_iconst (v := 0) C dX6_isSupplyOrder_42 ci_0 ?_
      exact B43 0 τ10 hJ
    · have hJ := hJf hc11; clear hJt hJf
      refine V_aload_n C dX6_isSupplyOrder_20 0 rfl ?_
      refine V_iconst (v := 1) C dX6_isSupplyOrder_21 ci_1 ?_
      refine V_aload_n C dX6_isSupplyOrder_22 0 rfl ?_
      refine V_get (ci := 6) C okM_0 uX6 rfl 11 (Nat.le_of_ble_eq_true rfl) rfl rfl f38 dX6_isSupplyOrder_23 ?_
      refine V_iconst (v := 0) C dX6_isSupplyOrder_26 ci_0 ?_
      refine V_iald C okM_10 0 rfl rfl ix_0 vpc_0_3 dX6_isSupplyOrder_27 ?_
      refine V_iconst (v := 1) C dX6_isSupplyOrder_28 ci_1 ?_
      refine V_iadd C dX6_isSupplyOrder_29 ?_
      refine V_bipush (v := 24) C dX6_isSupplyOrder_30 cb_24 ?_
      refine V_cVi (st := []) (ci := 6) C okM_0 (M_X6_number l D tc ad A 1 ((τ10 (10, 0, 0) 0) + 1) 24 hJ) (cwV 3 C.1.2.2.2.2 gX6_isSupplyOrder_X6_number rfl rfl rfl (by decide +kernel) ⟨Nat.le_of_ble_eq_true rfl, Nat.le_of_ble_eq_true rfl⟩) rfl rfl rfl rfl (Nat.le_of_ble_eq_true rfl) dX6_isSupplyOrder_32 (fun r12 τ12 hJ => ?_)
      obtain ⟨hJt, hJf⟩ := hJ
      refine V_if_eq C (tgt := 42) dX6_isSupplyOrder_35 rfl (fun hc13 => ?_) (fun hc13 => ?_)
      · have hJ := hJt hc13; clear hJt hJf
        refine V_iconst (v := 0) C dX6_isSupplyOrder_42 ci_0 ?_
        exact B43 0 τ12 hJ
      · have hJ := hJf hc13; clear hJt hJf
        refine V_iconst (v := 1) C dX6_isSupplyOrder_38 ci_1 ?_
        refine V_goto C (tgt := 43) dX6_isSupplyOrder_39 rfl ?_
        exact B43 1 τ12 hJ
set_option maxHeartbeats 4000000 in
set_option maxRecDepth 100000 in
theorem M_X6_supplies (l : Launch) (D : va_G) (tc : Nat → ClassId) (ad : Oid → Nat) (A : Nat → Prop) (x1 : Int32) (x2 : Int32) (x3 : Int32) {σ : Mem} {Qr : Int32 → Mem → Prop} (hJ : J_X6_supplies x1 x2 x3 σ Qr) : Met l yX6_supplies wsX6_supplies ({ frames := 0, cells := 0, slots := 0, locals := 0 }) (va_Pc [.ref (ad (0, 0, 0)), .int x1, .int x2, .int x3] (WdI D vwCl (tysX tc) idsM ad (ceM tc ad) A σ)) (va_Qi (fun (r : Int32) (u : Mem) => Qr r u) (WdO D vwCl idsM ad (ceM tc ad) A) A) 0 0 A := by
  refine V_meti (cc := cX6_supplies) (nL := 6) (ret := (some .int)) (own := RX6) rfl (plainFor_of_name (by decide)) rfl rfl (Nat.le_of_ble_eq_true rfl) ?_
  intro p e s m below meth c C hr hlocks
  refine V_sub (lv' := [(0, .ref (ad (0, 0, 0))), (1, .int x1), (2, .int x2), (3, .int x3)]) [0, 1, 2, 3] rfl ?_
  have f7 : Cond.fieldLink RX6 7 (TX6 0).1 (TX6 0).2.1 (TX6 0).2.2.1 ∈ wsX6_supplies := List.mem_of_getElem? (i := 1) rfl
  have uX6 : ∀ w ∈ u_ws RX6 TX6 12, w ∈ wsX6_supplies := by decide +kernel
  unfold J_X6_supplies at hJ
  refine V_aload_n C dX6_supplies_0 0 rfl ?_
  refine V_get (ci := 6) C okM_0 uX6 rfl 0 (Nat.le_of_ble_eq_true rfl) rfl rfl f7 dX6_supplies_1 ?_
  refine V_bipush (v := 12) C dX6_supplies_4 cb_12 ?_
  refine V_iload_n C dX6_supplies_6 1 rfl ?_
  refine V_iadd C dX6_supplies_7 ?_
  obtain ⟨hv1, hJ⟩ := hJ
  refine V_iald C okM_1 0 rfl rfl rfl hv1 dX6_supplies_8 ?_
  refine V_topi (fun x4_2 hx4_2 => ?_)
  replace hJ := hJ x4_2 hx4_2
  refine V_istore (lv' := [(4, .int x4_2), (0, .ref (ad (0, 0, 0))), (1, .int x1), (2, .int x2), (3, .int x3)]) C dX6_supplies_9 (by decide) rfl ?_
  refine V_iload_n C dX6_supplies_11 2 rfl ?_
  refine V_istore (lv' := [(5, .int x1), (4, .int x4_2), (0, .ref (ad (0, 0, 0))), (1, .int x1), (2, .int x2), (3, .int x3)]) C dX6_supplies_12 (by decide) rfl ?_
  refine V_sub (lv' := [(0, .ref (ad (0, 0, 0))), (2, .int x2), (3, .int x3), (4, .int x4_2), (5, .int x1)]) [2, 4, 5, 1, 0] rfl ?_
  obtain ⟨I14, μ14, hI14, hst14⟩ := hJ
  have L14 : ∀ (n : Nat) (x5_3 : Int32) (τ3 : Mem), μ14 x5_3 τ3 < n → I14 x5_3 τ3 → VV p l e (headSpec wsX6_supplies ({ frames := 0, cells := 0, slots := 0, locals := 0 })).room s m ([.ref (ad (0, 0, 0)), .int x1, .int x2, .int x3] : List Value).toArray below meth c D vwCl idsM ad (ceM tc ad) A (MQ below (va_Qi (fun (r : Int32) (u : Mem) => Qr r u) (WdO D vwCl idsM ad (ceM tc ad) A) A) ([.ref (ad (0, 0, 0)), .int x1, .int x2, .int x3] : List Value).toArray s 0 0 A) 6 14 [(0, .ref (ad (0, 0, 0))), (2, .int x2), (3, .int x3), (4, .int x4_2), (5, .int x5_3)] [] τ3 := by
    intro n
    induction n with
    | zero => intro x5_3 τ3 hμ _; exact absurd hμ (Nat.not_lt_zero _)
    | succ n ihn =>
      intro x5_3 τ3 hμ14 hJ
      have ih14 := ihn
      replace hJ := hst14 x5_3 τ3 hJ
      refine V_iload C dX6_supplies_14 4 rfl ?_
      refine V_iload_n C dX6_supplies_16 1 rfl ?_
      obtain ⟨hJt, hJf⟩ := hJ
      refine V_icmp_ge C (tgt := 37) dX6_supplies_17 rfl (fun hc4 => ?_) (fun hc4 => ?_)
      · have hJ := hJt hc4; clear hJt hJf
        refine V_iload C dX6_supplies_37 3 rfl ?_
        exact V_iret C hr hlocks dX6_supplies_39 hJ
      · have hJ := hJf hc4; clear hJt hJf
        refine V_aload_n C dX6_supplies_20 0 rfl ?_
        refine V_get (ci := 6) C okM_0 uX6 rfl 0 (Nat.le_of_ble_eq_true rfl) rfl rfl f7 dX6_supplies_21 ?_
        refine V_bipush (v := 12) C dX6_supplies_24 cb_12 ?_
        refine V_iload C dX6_supplies_26 4 rfl ?_
        refine V_iadd C dX6_supplies_28 ?_
        refine V_iload_n C dX6_supplies_29 2 rfl ?_
        obtain ⟨hv5, hJ⟩ := hJ
        refine V_iast C okM_1 0 rfl (fun _ => rfl) rfl hv5 dX6_supplies_30 (fun τ6 hτ6 => ?_)
        replace hJ := hJ τ6 hτ6
        obtain ⟨x5_7, hx5_7⟩ : ∃ y : Int32, y = x5_3 + 1 := ⟨_, rfl⟩
        replace hJ := hJ x5_7 hx5_7
        refine V_iinc (v := x5_7) (lv' := [(5, .int x5_7), (0, .ref (ad (0, 0, 0))), (2, .int x2), (3, .int x3), (4, .int x4_2)]) C dX6_supplies_31 4 rfl (by rw [hx5_7]; exact congrArg _ ci_1) (by decide) rfl ?_
        refine V_goto C (tgt := 14) dX6_supplies_34 rfl ?_
        refine V_sub (lv' := [(0, .ref (ad (0, 0, 0))), (2, .int x2), (3, .int x3), (4, .int x4_2), (5, .int x5_7)]) [1, 2, 3, 4, 0] rfl ?_
        exact ih14 x5_7 τ6 (Nat.lt_of_lt_of_le hJ.2 (Nat.le_of_lt_succ hμ14)) hJ.1
  exact L14 _ x1 σ (Nat.lt_succ_self _) hI14
set_option maxHeartbeats 4000000 in
set_option maxRecDepth 100000 in
theorem M_X6_isOrder (l : Launch) (D : va_G) (tc : Nat → ClassId) (ad : Oid → Nat) (A : Nat → Prop) {σ : Mem} {Qr : Int32 → Mem → Prop} (hJ : J_X6_isOrder σ Qr) : Met l yX6_isOrder wsX6_isOrder ({ frames := 3, cells := 0, slots := 0, locals := 69 }) (va_Pc [.ref (ad (0, 0, 0))] (WdI D vwCl (tysX tc) idsM ad (ceM tc ad) A σ)) (va_Qi (fun (r : Int32) (u : Mem) => Qr r u) (WdO D vwCl idsM ad (ceM tc ad) A) A) 0 0 A := by
  refine V_meti (cc := cX6_isOrder) (nL := 5) (ret := (some .boolean)) (own := RX6) rfl (plainFor_of_name (by decide)) rfl rfl (Nat.le_of_ble_eq_true rfl) ?_
  intro p e s m below meth c C hr hlocks
  refine V_sub (lv' := [(0, .ref (ad (0, 0, 0)))]) [0] rfl ?_
  have f132 : Cond.fieldLink RX6 132 (TX6 10).1 (TX6 10).2.1 (TX6 10).2.2.1 ∈ wsX6_isOrder := List.mem_of_getElem? (i := 2) rfl
  have uX6 : ∀ w ∈ u_ws RX6 TX6 12, w ∈ wsX6_isOrder := by decide +kernel
  have f38 : Cond.fieldLink RX6 38 (TX6 11).1 (TX6 11).2.1 (TX6 11).2.2.1 ∈ wsX6_isOrder := List.mem_of_getElem? (i := 3) rfl
  have f7 : Cond.fieldLink RX6 7 (TX6 0).1 (TX6 0).2.1 (TX6 0).2.2.1 ∈ wsX6_isOrder := List.mem_of_getElem? (i := 1) rfl
  have B236 : ∀ (t0 : Int32) (τ : Mem), J_X6_isOrder_b236   t0 τ Qr → VV p l e (headSpec wsX6_isOrder ({ frames := 3, cells := 0, slots := 0, locals := 69 })).room s m ([.ref (ad (0, 0, 0))] : List Value).toArray below meth c D vwCl idsM ad (ceM tc ad) A (MQ below (va_Qi (fun (r : Int32) (u : Mem) => Qr r u) (WdO D vwCl idsM ad (ceM tc ad) A) A) ([.ref (ad (0, 0, 0))] : List Value).toArray s 0 0 A) 5 236 [(0, .ref (ad (0, 0, 0)))] [.int t0] τ := by
    intro t0 τ hJ
    unfold J_X6_isOrder_b236 at hJ
    refine V_istore_n (lv' := [(3, .int t0), (0, .ref (ad (0, 0, 0)))]) C dX6_isOrder_236 (by decide) rfl ?_
    refine V_iload_n C dX6_isOrder_237 0 rfl ?_
    obtain ⟨hJt, hJf⟩ := hJ
    refine V_if_eq C (tgt := 264) dX6_isOrder_238 rfl (fun hc17 => ?_) (fun hc17 => ?_)
    · have hJ := hJt hc17; clear hJt hJf
      refine V_iconst (v := 0) C dX6_isOrder_264 ci_0 ?_
      refine V_istore (lv' := [(4, .int 0), (3, .int t0), (0, .ref (ad (0, 0, 0)))]) C dX6_isOrder_265 (by decide) rfl ?_
      refine V_iload_n C dX6_isOrder_267 1 rfl ?_
      obtain ⟨hb18, hJ⟩ := hJ
      exact V_zret C hr hlocks hb18 dX6_isOrder_268 hJ
    · have hJ := hJf hc17; clear hJt hJf
      refine V_aload_n C dX6_isOrder_241 1 rfl ?_
      refine V_sipush (v := 178) C dX6_isOrder_242 cs_178 ?_
      refine V_aload_n C dX6_isOrder_245 1 rfl ?_
      refine V_get (ci := 6) C okM_0 uX6 rfl 11 (Nat.le_of_ble_eq_true rfl) rfl rfl f38 dX6_isOrder_246 ?_
      refine V_iconst (v := 0) C dX6_isOrder_249 ci_0 ?_
      refine V_iald C okM_10 0 rfl rfl ix_0 vpc_0_3 dX6_isOrder_250 ?_
      refine V_iadd C dX6_isOrder_251 ?_
      refine V_aload_n C dX6_isOrder_252 1 rfl ?_
      refine V_get (ci := 6) C okM_0 uX6 rfl 11 (Nat.le_of_ble_eq_true rfl) rfl rfl f38 dX6_isOrder_253 ?_
      refine V_iconst (v := 1) C dX6_isOrder_256 ci_1 ?_
      refine V_iald C okM_10 0 rfl rfl ix_1 vpc_1_3 dX6_isOrder_257 ?_
      refine V_cVi (st := []) (ci := 6) C okM_0 (M_X6_puts l D tc ad A (178 + (τ (10, 0, 0) 0)) (τ (10, 0, 0) 1) hJ) (cwV 2 C.1.2.2.2.2 gX6_isOrder_X6_puts rfl rfl rfl (by decide +kernel) ⟨Nat.le_of_ble_eq_true rfl, Nat.le_of_ble_eq_true rfl⟩) rfl rfl rfl rfl (Nat.le_of_ble_eq_true rfl) dX6_isOrder_258 (fun r19 τ19 hJ => ?_)
      refine V_goto C (tgt := 265) dX6_isOrder_261 rfl ?_
      refine V_istore (lv' := [(4, .int r19), (3, .int t0), (0, .ref (ad (0, 0, 0)))]) C dX6_isOrder_265 (by decide) rfl ?_
      refine V_iload_n C dX6_isOrder_267 1 rfl ?_
      obtain ⟨hb20, hJ⟩ := hJ
      exact V_zret C hr hlocks hb20 dX6_isOrder_268 hJ
  have B72 : ∀ (b1 : Int32) (t0 : Int32) (τ : Mem), J_X6_isOrder_b72   b1 t0 τ Qr → VV p l e (headSpec wsX6_isOrder ({ frames := 3, cells := 0, slots := 0, locals := 69 })).room s m ([.ref (ad (0, 0, 0))] : List Value).toArray below meth c D vwCl idsM ad (ceM tc ad) A (MQ below (va_Qi (fun (r : Int32) (u : Mem) => Qr r u) (WdO D vwCl idsM ad (ceM tc ad) A) A) ([.ref (ad (0, 0, 0))] : List Value).toArray s 0 0 A) 5 72 [(0, .ref (ad (0, 0, 0))), (1, .int b1)] [.int t0] τ := by
    intro b1 t0 τ hJ
    unfold J_X6_isOrder_b72 at hJ
    refine V_istore_n (lv' := [(2, .int t0), (0, .ref (ad (0, 0, 0))), (1, .int b1)]) C dX6_isOrder_72 (by decide) rfl ?_
    refine V_iload_n C dX6_isOrder_73 0 rfl ?_
    obtain ⟨hJt, hJf⟩ := hJ
    refine V_if_ne C (tgt := 79) dX6_isOrder_74 rfl (fun hc5 => ?_) (fun hc5 => ?_)
    · have hJ := hJt hc5; clear hJt hJf
      refine V_aload_n C dX6_isOrder_79 1 rfl ?_
      refine V_dup C dX6_isOrder_80 rfl ?_
      refine V_get (ci := 6) C okM_0 uX6 rfl 10 (Nat.le_of_ble_eq_true rfl) rfl rfl f132 dX6_isOrder_81 ?_
      refine V_iconst (v := 1) C dX6_isOrder_84 ci_1 ?_
      refine V_iadd C dX6_isOrder_85 ?_
      refine V_put (ci := 6) C okM_0 uX6 tyX6 tyX6_ok nmX6 rfl 10 (Nat.le_of_ble_eq_true rfl) rfl rfl f132 rfl (ty := .int) (by decide +kernel) rfl rfl (Nat.le_of_ble_eq_true rfl) dX6_isOrder_86 (fun τ6 hτ6 => ?_)
      replace hJ := hJ τ6 hτ6
      refine V_iload_n C dX6_isOrder_89 2 rfl ?_
      refine V_bipush (v := 100) C dX6_isOrder_90 cb_100 ?_
      obtain ⟨hJt, hJf⟩ := hJ
      refine V_icmp_ne C (tgt := 134) dX6_isOrder_92 rfl (fun hc7 => ?_) (fun hc7 => ?_)
      · have hJ := hJt hc7; clear hJt hJf
        refine V_iload_n C dX6_isOrder_134 2 rfl ?_
        refine V_bipush (v := 117) C dX6_isOrder_135 cb_117 ?_
        obtain ⟨hJt, hJf⟩ := hJ
        refine V_icmp_ne C (tgt := 179) dX6_isOrder_137 rfl (fun hc8 => ?_) (fun hc8 => ?_)
        · have hJ := hJt hc8; clear hJt hJf
          refine V_iload_n C dX6_isOrder_179 2 rfl ?_
          refine V_bipush (v := 116) C dX6_isOrder_180 cb_116 ?_
          obtain ⟨hJt, hJf⟩ := hJ
          refine V_icmp_ne C (tgt := 269) dX6_isOrder_182 rfl (fun hc9 => ?_) (fun hc9 => ?_)
          · have hJ := hJt hc9; clear hJt hJf
            refine V_aload_n C dX6_isOrder_269 1 rfl ?_
            refine V_cVi (st := []) (ci := 6) C okM_0 (M_X6_isSupplyOrder l D tc ad A  hJ) (cwV 0 C.1.2.2.2.2 gX6_isOrder_X6_isSupplyOrder rfl rfl rfl (by decide +kernel) ⟨Nat.le_of_ble_eq_true rfl, Nat.le_of_ble_eq_true rfl⟩) rfl rfl rfl rfl (Nat.le_of_ble_eq_true rfl) dX6_isOrder_270 (fun r10 τ10 hJ => ?_)
            refine V_istore_n (lv' := [(3, .int r10), (2, .int t0), (0, .ref (ad (0, 0, 0))), (1, .int b1)]) C dX6_isOrder_273 (by decide) rfl ?_
            refine V_iload_n C dX6_isOrder_274 0 rfl ?_
            obtain ⟨hJt, hJf⟩ := hJ
            refine V_if_eq C (tgt := 303) dX6_isOrder_275 rfl (fun hc11 => ?_) (fun hc11 => ?_)
            · have hJ := hJt hc11; clear hJt hJf
              refine V_iconst (v := 0) C dX6_isOrder_303 ci_0 ?_
              refine V_istore (lv' := [(4, .int 0), (3, .int r10), (2, .int t0), (0, .ref (ad (0, 0, 0))), (1, .int b1)]) C dX6_isOrder_304 (by decide) rfl ?_
              refine V_iload_n C dX6_isOrder_306 1 rfl ?_
              obtain ⟨hb12, hJ⟩ := hJ
              exact V_zret C hr hlocks hb12 dX6_isOrder_307 hJ
            · have hJ := hJf hc11; clear hJt hJf
              refine V_aload_n C dX6_isOrder_278 2 rfl ?_
              refine V_aload_n C dX6_isOrder_279 2 rfl ?_
              refine V_get (ci := 6) C okM_0 uX6 rfl 11 (Nat.le_of_ble_eq_true rfl) rfl rfl f38 dX6_isOrder_280 ?_
              refine V_iconst (v := 0) C dX6_isOrder_283 ci_0 ?_
              refine V_iald C okM_10 0 rfl rfl ix_0 vpc_0_3 dX6_isOrder_284 ?_
              refine V_aload_n C dX6_isOrder_285 2 rfl ?_
              refine V_get (ci := 6) C okM_0 uX6 rfl 11 (Nat.le_of_ble_eq_true rfl) rfl rfl f38 dX6_isOrder_286 ?_
              refine V_iconst (v := 1) C dX6_isOrder_289 ci_1 ?_
              refine V_iald C okM_10 0 rfl rfl ix_1 vpc_1_3 dX6_isOrder_290 ?_
              refine V_aload_n C dX6_isOrder_291 2 rfl ?_
              refine V_get (ci := 6) C okM_0 uX6 rfl 11 (Nat.le_of_ble_eq_true rfl) rfl rfl f38 dX6_isOrder_292 ?_
              refine V_iconst (v := 2) C dX6_isOrder_295 ci_2 ?_
              refine V_iald C okM_10 0 rfl rfl ix_2 vpc_2_3 dX6_isOrder_296 ?_
              refine V_cVi (st := []) (ci := 6) C okM_0 (M_X6_supplies l D tc ad A (τ10 (10, 0, 0) 0) (τ10 (10, 0, 0) 1) (τ10 (10, 0, 0) 2) hJ) (cwV 3 C.1.2.2.2.2 gX6_isOrder_X6_supplies rfl rfl rfl (by decide +kernel) ⟨Nat.le_of_ble_eq_true rfl, Nat.le_of_ble_eq_true rfl⟩) rfl rfl rfl rfl (Nat.le_of_ble_eq_true rfl) dX6_isOrder_297 (fun r13 τ13 hJ => ?_)
              refine V_goto C (tgt := 304) dX6_isOrder_300 rfl ?_
              refine V_istore (lv' := [(4, .int r13), (3, .int r10), (2, .int t0), (0, .ref (ad (0, 0, 0))), (1, .int b1)]) C dX6_isOrder_304 (by decide) rfl ?_
              refine V_iload_n C dX6_isOrder_306 1 rfl ?_
              obtain ⟨hb14, hJ⟩ := hJ
              exact V_zret C hr hlocks hb14 dX6_isOrder_307 hJ
          · have hJ := hJf hc9; clear hJt hJf
            refine V_aload_n C dX6_isOrder_185 1 rfl ?_
            refine V_iconst (v := 0) C dX6_isOrder_186 ci_0 ?_
            refine V_iconst (v := 0) C dX6_isOrder_187 ci_0 ?_
            refine V_aload_n C dX6_isOrder_188 1 rfl ?_
            refine V_get (ci := 6) C okM_0 uX6 rfl 0 (Nat.le_of_ble_eq_true rfl) rfl rfl f7 dX6_isOrder_189 ?_
            refine V_iconst (v := 2) C dX6_isOrder_192 ci_2 ?_
            refine V_iald C okM_1 0 rfl rfl ix_2 vpc_2_214 dX6_isOrder_193 ?_
            refine V_iconst (v := 1) C dX6_isOrder_194 ci_1 ?_
            refine V_isub C dX6_isOrder_195 ?_
            refine V_cVi (st := []) (ci := 6) C okM_0 (M_X6_number l D tc ad A 0 0 ((τ6 (1, 0, 0) 2) - 1) hJ) (cwV 3 C.1.2.2.2.2 gX6_isOrder_X6_number rfl rfl rfl (by decide +kernel) ⟨Nat.le_of_ble_eq_true rfl, Nat.le_of_ble_eq_true rfl⟩) rfl rfl rfl rfl (Nat.le_of_ble_eq_true rfl) dX6_isOrder_196 (fun r15 τ15 hJ => ?_)
            obtain ⟨hJt, hJf⟩ := hJ
            refine V_if_eq C (tgt := 235) dX6_isOrder_199 rfl (fun hc16 => ?_) (fun hc16 => ?_)
            · have hJ := hJt hc16; clear hJt hJf
              refine V_iconst (v := 0) C dX6_isOrder_235 ci_0 ?_
              refine V_sub (lv' := [(0, .ref (ad (0, 0, 0)))]) [1] rfl ?_
              exact B236 0 τ15 hJ
            · have hJ := hJf hc16; clear hJt hJf
              refine V_aload_n C dX6_isOrder_202 1 rfl ?_
              refine V_bipush (v := 46) C dX6_isOrder_203 cb_46 ?_
              refine V_cVi (st := []) (ci := 6) C okM_0 (M_X6_takes l D tc ad A 46 hJ) (cwV 1 C.1.2.2.2.2 gX6_isOrder_X6_takes rfl rfl rfl (by decide +kernel) ⟨Nat.le_of_ble_eq_true rfl, Nat.le_of_ble_eq_true rfl⟩) rfl rfl rfl rfl (Nat.le_of_ble_eq_true rfl) dX6_isOrder_205 (fun r21 τ21 hJ => ?_)
              obtain ⟨hJt, hJf⟩ := hJ
              refine V_if_eq C (tgt := 235) dX6_isOrder_208 rfl (fun hc22 => ?_) (fun hc22 => ?_)
              · have hJ := hJt hc22; clear hJt hJf
                refine V_iconst (v := 0) C dX6_isOrder_235 ci_0 ?_
                refine V_sub (lv' := [(0, .ref (ad (0, 0, 0)))]) [1] rfl ?_
                exact B236 0 τ21 hJ
              · have hJ := hJf hc22; clear hJt hJf
                refine V_aload_n C dX6_isOrder_211 1 rfl ?_
                refine V_iconst (v := 1) C dX6_isOrder_212 ci_1 ?_
                refine V_iconst (v := 0) C dX6_isOrder_213 ci_0 ?_
                refine V_bipush (v := 24) C dX6_isOrder_214 cb_24 ?_
                refine V_cVi (st := []) (ci := 6) C okM_0 (M_X6_number l D tc ad A 1 0 24 hJ) (cwV 3 C.1.2.2.2.2 gX6_isOrder_X6_number rfl rfl rfl (by decide +kernel) ⟨Nat.le_of_ble_eq_true rfl, Nat.le_of_ble_eq_true rfl⟩) rfl rfl rfl rfl (Nat.le_of_ble_eq_true rfl) dX6_isOrder_216 (fun r23 τ23 hJ => ?_)
                obtain ⟨hJt, hJf⟩ := hJ
                refine V_if_eq C (tgt := 235) dX6_isOrder_219 rfl (fun hc24 => ?_) (fun hc24 => ?_)
                · have hJ := hJt hc24; clear hJt hJf
                  refine V_iconst (v := 0) C dX6_isOrder_235 ci_0 ?_
                  refine V_sub (lv' := [(0, .ref (ad (0, 0, 0)))]) [1] rfl ?_
                  exact B236 0 τ23 hJ
                · have hJ := hJf hc24; clear hJt hJf
                  refine V_aload_n C dX6_isOrder_222 1 rfl ?_
                  refine V_bipush (v := 59) C dX6_isOrder_223 cb_59 ?_
                  refine V_cVi (st := []) (ci := 6) C okM_0 (M_X6_takes l D tc ad A 59 hJ) (cwV 1 C.1.2.2.2.2 gX6_isOrder_X6_takes rfl rfl rfl (by decide +kernel) ⟨Nat.le_of_ble_eq_true rfl, Nat.le_of_ble_eq_true rfl⟩) rfl rfl rfl rfl (Nat.le_of_ble_eq_true rfl) dX6_isOrder_225 (fun r25 τ25 hJ => ?_)
                  obtain ⟨hJt, hJf⟩ := hJ
                  refine V_if_eq C (tgt := 235) dX6_isOrder_228 rfl (fun hc26 => ?_) (fun hc26 => ?_)
                  · have hJ := hJt hc26; clear hJt hJf
                    refine V_iconst (v := 0) C dX6_isOrder_235 ci_0 ?_
                    refine V_sub (lv' := [(0, .ref (ad (0, 0, 0)))]) [1] rfl ?_
                    exact B236 0 τ25 hJ
                  · have hJ := hJf hc26; clear hJt hJf
                    refine V_iconst (v := 1) C dX6_isOrder_231 ci_1 ?_
                    refine V_goto C (tgt := 236) dX6_isOrder_232 rfl ?_
                    refine V_sub (lv' := [(0, .ref (ad (0, 0, 0)))]) [1] rfl ?_
                    exact B236 1 τ25 hJ
        · have hJ := hJf hc8; clear hJt hJf
          refine V_aload_n C dX6_isOrder_140 1 rfl ?_
          refine V_cVi (st := []) (ci := 6) C okM_0 (M_X6_isUserOrder l D tc ad A  hJ) (cwV 0 C.1.2.2.2.2 gX6_isOrder_X6_isUserOrder rfl rfl rfl (by decide +kernel) ⟨Nat.le_of_ble_eq_true rfl, Nat.le_of_ble_eq_true rfl⟩) rfl rfl rfl rfl (Nat.le_of_ble_eq_true rfl) dX6_isOrder_141 (fun r27 τ27 hJ => ?_)
          refine V_istore_n (lv' := [(3, .int r27), (2, .int t0), (0, .ref (ad (0, 0, 0))), (1, .int b1)]) C dX6_isOrder_144 (by decide) rfl ?_
          refine V_iload_n C dX6_isOrder_145 0 rfl ?_
          obtain ⟨hJt, hJf⟩ := hJ
          refine V_if_eq C (tgt := 174) dX6_isOrder_146 rfl (fun hc28 => ?_) (fun hc28 => ?_)
          · have hJ := hJt hc28; clear hJt hJf
            refine V_iconst (v := 0) C dX6_isOrder_174 ci_0 ?_
            refine V_istore (lv' := [(4, .int 0), (3, .int r27), (2, .int t0), (0, .ref (ad (0, 0, 0))), (1, .int b1)]) C dX6_isOrder_175 (by decide) rfl ?_
            refine V_iload_n C dX6_isOrder_177 1 rfl ?_
            obtain ⟨hb29, hJ⟩ := hJ
            exact V_zret C hr hlocks hb29 dX6_isOrder_178 hJ
          · have hJ := hJf hc28; clear hJt hJf
            refine V_aload_n C dX6_isOrder_149 2 rfl ?_
            refine V_aload_n C dX6_isOrder_150 2 rfl ?_
            refine V_get (ci := 6) C okM_0 uX6 rfl 11 (Nat.le_of_ble_eq_true rfl) rfl rfl f38 dX6_isOrder_151 ?_
            refine V_iconst (v := 0) C dX6_isOrder_154 ci_0 ?_
            refine V_iald C okM_10 0 rfl rfl ix_0 vpc_0_3 dX6_isOrder_155 ?_
            refine V_aload_n C dX6_isOrder_156 2 rfl ?_
            refine V_get (ci := 6) C okM_0 uX6 rfl 11 (Nat.le_of_ble_eq_true rfl) rfl rfl f38 dX6_isOrder_157 ?_
            refine V_iconst (v := 1) C dX6_isOrder_160 ci_1 ?_
            refine V_iald C okM_10 0 rfl rfl ix_1 vpc_1_3 dX6_isOrder_161 ?_
            refine V_aload_n C dX6_isOrder_162 2 rfl ?_
            refine V_get (ci := 6) C okM_0 uX6 rfl 11 (Nat.le_of_ble_eq_true rfl) rfl rfl f38 dX6_isOrder_163 ?_
            refine V_iconst (v := 2) C dX6_isOrder_166 ci_2 ?_
            refine V_iald C okM_10 0 rfl rfl ix_2 vpc_2_3 dX6_isOrder_167 ?_
            refine V_cVi (st := []) (ci := 6) C okM_0 (M_X6_addsUser l D tc ad A (τ27 (10, 0, 0) 0) (τ27 (10, 0, 0) 1) (τ27 (10, 0, 0) 2) hJ) (cwV 3 C.1.2.2.2.2 gX6_isOrder_X6_addsUser rfl rfl rfl (by decide +kernel) ⟨Nat.le_of_ble_eq_true rfl, Nat.le_of_ble_eq_true rfl⟩) rfl rfl rfl rfl (Nat.le_of_ble_eq_true rfl) dX6_isOrder_168 (fun r30 τ30 hJ => ?_)
            refine V_goto C (tgt := 175) dX6_isOrder_171 rfl ?_
            refine V_istore (lv' := [(4, .int r30), (3, .int r27), (2, .int t0), (0, .ref (ad (0, 0, 0))), (1, .int b1)]) C dX6_isOrder_175 (by decide) rfl ?_
            refine V_iload_n C dX6_isOrder_177 1 rfl ?_
            obtain ⟨hb31, hJ⟩ := hJ
            exact V_zret C hr hlocks hb31 dX6_isOrder_178 hJ
      · have hJ := hJf hc7; clear hJt hJf
        refine V_aload_n C dX6_isOrder_95 1 rfl ?_
        refine V_cVi (st := []) (ci := 6) C okM_0 (M_X6_isDitchOrder l D tc ad A  hJ) (cwV 0 C.1.2.2.2.2 gX6_isOrder_X6_isDitchOrder rfl rfl rfl (by decide +kernel) ⟨Nat.le_of_ble_eq_true rfl, Nat.le_of_ble_eq_true rfl⟩) rfl rfl rfl rfl (Nat.le_of_ble_eq_true rfl) dX6_isOrder_96 (fun r32 τ32 hJ => ?_)
        refine V_istore_n (lv' := [(3, .int r32), (2, .int t0), (0, .ref (ad (0, 0, 0))), (1, .int b1)]) C dX6_isOrder_99 (by decide) rfl ?_
        refine V_iload_n C dX6_isOrder_100 0 rfl ?_
        obtain ⟨hJt, hJf⟩ := hJ
        refine V_if_eq C (tgt := 129) dX6_isOrder_101 rfl (fun hc33 => ?_) (fun hc33 => ?_)
        · have hJ := hJt hc33; clear hJt hJf
          refine V_iconst (v := 0) C dX6_isOrder_129 ci_0 ?_
          refine V_istore (lv' := [(4, .int 0), (3, .int r32), (2, .int t0), (0, .ref (ad (0, 0, 0))), (1, .int b1)]) C dX6_isOrder_130 (by decide) rfl ?_
          refine V_iload_n C dX6_isOrder_132 1 rfl ?_
          obtain ⟨hb34, hJ⟩ := hJ
          exact V_zret C hr hlocks hb34 dX6_isOrder_133 hJ
        · have hJ := hJf hc33; clear hJt hJf
          refine V_aload_n C dX6_isOrder_104 2 rfl ?_
          refine V_aload_n C dX6_isOrder_105 2 rfl ?_
          refine V_get (ci := 6) C okM_0 uX6 rfl 11 (Nat.le_of_ble_eq_true rfl) rfl rfl f38 dX6_isOrder_106 ?_
          refine V_iconst (v := 0) C dX6_isOrder_109 ci_0 ?_
          refine V_iald C okM_10 0 rfl rfl ix_0 vpc_0_3 dX6_isOrder_110 ?_
          refine V_aload_n C dX6_isOrder_111 2 rfl ?_
          refine V_get (ci := 6) C okM_0 uX6 rfl 11 (Nat.le_of_ble_eq_true rfl) rfl rfl f38 dX6_isOrder_112 ?_
          refine V_iconst (v := 1) C dX6_isOrder_115 ci_1 ?_
          refine V_iald C okM_10 0 rfl rfl ix_1 vpc_1_3 dX6_isOrder_116 ?_
          refine V_aload_n C dX6_isOrder_117 2 rfl ?_
          refine V_get (ci := 6) C okM_0 uX6 rfl 11 (Nat.le_of_ble_eq_true rfl) rfl rfl f38 dX6_isOrder_118 ?_
          refine V_iconst (v := 2) C dX6_isOrder_121 ci_2 ?_
          refine V_iald C okM_10 0 rfl rfl ix_2 vpc_2_3 dX6_isOrder_122 ?_
          refine V_cVi (st := []) (ci := 6) C okM_0 (M_X6_addsDitch l D tc ad A (τ32 (10, 0, 0) 0) (τ32 (10, 0, 0) 1) (τ32 (10, 0, 0) 2) hJ) (cwV 3 C.1.2.2.2.2 gX6_isOrder_X6_addsDitch rfl rfl rfl (by decide +kernel) ⟨Nat.le_of_ble_eq_true rfl, Nat.le_of_ble_eq_true rfl⟩) rfl rfl rfl rfl (Nat.le_of_ble_eq_true rfl) dX6_isOrder_123 (fun r35 τ35 hJ => ?_)
          refine V_goto C (tgt := 130) dX6_isOrder_126 rfl ?_
          refine V_istore (lv' := [(4, .int r35), (3, .int r32), (2, .int t0), (0, .ref (ad (0, 0, 0))), (1, .int b1)]) C dX6_isOrder_130 (by decide) rfl ?_
          refine V_iload_n C dX6_isOrder_132 1 rfl ?_
          obtain ⟨hb36, hJ⟩ := hJ
          exact V_zret C hr hlocks hb36 dX6_isOrder_133 hJ
    · have hJ := hJf hc5; clear hJt hJf
      refine V_iconst (v := 0) C dX6_isOrder_77 ci_0 ?_
      exact V_zret C hr hlocks (Or.inl rfl) dX6_isOrder_78 hJ
  unfold J_X6_isOrder at hJ
  refine V_aload_n C dX6_isOrder_0 0 rfl ?_
  refine V_cVi (st := []) (ci := 6) C okM_0 (M_X6_here l D tc ad A  hJ) (cwV 0 C.1.2.2.2.2 gX6_isOrder_X6_here rfl rfl rfl (by decide +kernel) ⟨Nat.le_of_ble_eq_true rfl, Nat.le_of_ble_eq_true rfl⟩) rfl rfl rfl rfl (Nat.le_of_ble_eq_true rfl) dX6_isOrder_1 (fun r1 τ1 hJ => ?_)
  refine V_istore_n (lv' := [(1, .int r1), (0, .ref (ad (0, 0, 0)))]) C dX6_isOrder_4 (by decide) rfl ?_
  refine V_iload_n C dX6_isOrder_5 0 rfl ?_
  refine V_bipush (v := 100) C dX6_isOrder_6 cb_100 ?_
  obtain ⟨hJt, hJf⟩ := hJ
  refine V_icmp_ne C (tgt := 30) dX6_isOrder_8 rfl (fun hc2 => ?_) (fun hc2 => ?_)
  · have hJ := hJt hc2; clear hJt hJf
    refine V_iload_n C dX6_isOrder_30 0 rfl ?_
    refine V_bipush (v := 117) C dX6_isOrder_31 cb_117 ?_
    obtain ⟨hJt, hJf⟩ := hJ
    refine V_icmp_ne C (tgt := 55) dX6_isOrder_33 rfl (fun hc3 => ?_) (fun hc3 => ?_)
    · have hJ := hJt hc3; clear hJt hJf
      refine V_iload_n C dX6_isOrder_55 0 rfl ?_
      refine V_bipush (v := 116) C dX6_isOrder_56 cb_116 ?_
      obtain ⟨hJt, hJf⟩ := hJ
      refine V_icmp_eq C (tgt := 67) dX6_isOrder_58 rfl (fun hc4 => ?_) (fun hc4 => ?_)
      · have hJ := hJt hc4; clear hJt hJf
        refine V_iconst (v := 1) C dX6_isOrder_67 ci_1 ?_
        refine V_goto C (tgt := 72) dX6_isOrder_68 rfl ?_
        refine V_sub (lv' := [(0, .ref (ad (0, 0, 0))), (1, .int r1)]) [1, 0] rfl ?_
        exact B72 r1 1 τ1 hJ
      · have hJ := hJf hc4; clear hJt hJf
        refine V_iload_n C dX6_isOrder_61 0 rfl ?_
        refine V_bipush (v := 115) C dX6_isOrder_62 cb_115 ?_
        obtain ⟨hJt, hJf⟩ := hJ
        refine V_icmp_ne C (tgt := 71) dX6_isOrder_64 rfl (fun hc37 => ?_) (fun hc37 => ?_)
        · have hJ := hJt hc37; clear hJt hJf
          refine V_iconst (v := 0) C dX6_isOrder_71 ci_0 ?_
          refine V_sub (lv' := [(0, .ref (ad (0, 0, 0))), (1, .int r1)]) [1, 0] rfl ?_
          exact B72 r1 0 τ1 hJ
        · have hJ := hJf hc37; clear hJt hJf
          refine V_iconst (v := 1) C dX6_isOrder_67 ci_1 ?_
          refine V_goto C (tgt := 72) dX6_isOrder_68 rfl ?_
          refine V_sub (lv' := [(0, .ref (ad (0, 0, 0))), (1, .int r1)]) [1, 0] rfl ?_
          exact B72 r1 1 τ1 hJ
    · have hJ := hJf hc3; clear hJt hJf
      refine V_aload_n C dX6_isOrder_36 1 rfl ?_
      refine V_get (ci := 6) C okM_0 uX6 rfl 0 (Nat.le_of_ble_eq_true rfl) rfl rfl f7 dX6_isOrder_37 ?_
      refine V_iconst (v := 2) C dX6_isOrder_40 ci_2 ?_
      refine V_iald C okM_1 0 rfl rfl ix_2 vpc_2_214 dX6_isOrder_41 ?_
      refine V_bipush (v := 12) C dX6_isOrder_42 cb_12 ?_
      obtain ⟨hJt, hJf⟩ := hJ
      refine V_icmp_ge C (tgt := 51) dX6_isOrder_44 rfl (fun hc38 => ?_) (fun hc38 => ?_)
      · have hJ := hJt hc38; clear hJt hJf
        refine V_iconst (v := 0) C dX6_isOrder_51 ci_0 ?_
        refine V_goto C (tgt := 72) dX6_isOrder_52 rfl ?_
        refine V_sub (lv' := [(0, .ref (ad (0, 0, 0))), (1, .int r1)]) [1, 0] rfl ?_
        exact B72 r1 0 τ1 hJ
      · have hJ := hJf hc38; clear hJt hJf
        refine V_iconst (v := 1) C dX6_isOrder_47 ci_1 ?_
        refine V_goto C (tgt := 72) dX6_isOrder_48 rfl ?_
        refine V_sub (lv' := [(0, .ref (ad (0, 0, 0))), (1, .int r1)]) [1, 0] rfl ?_
        exact B72 r1 1 τ1 hJ
  · have hJ := hJf hc2; clear hJt hJf
    refine V_aload_n C dX6_isOrder_11 1 rfl ?_
    refine V_get (ci := 6) C okM_0 uX6 rfl 0 (Nat.le_of_ble_eq_true rfl) rfl rfl f7 dX6_isOrder_12 ?_
    refine V_iconst (v := 1) C dX6_isOrder_15 ci_1 ?_
    refine V_iald C okM_1 0 rfl rfl ix_1 vpc_1_214 dX6_isOrder_16 ?_
    refine V_bipush (v := 10) C dX6_isOrder_17 cb_10 ?_
    obtain ⟨hJt, hJf⟩ := hJ
    refine V_icmp_ge C (tgt := 26) dX6_isOrder_19 rfl (fun hc39 => ?_) (fun hc39 => ?_)
    · have hJ := hJt hc39; clear hJt hJf
      refine V_iconst (v := 0) C dX6_isOrder_26 ci_0 ?_
      refine V_goto C (tgt := 72) dX6_isOrder_27 rfl ?_
      refine V_sub (lv' := [(0, .ref (ad (0, 0, 0))), (1, .int r1)]) [1, 0] rfl ?_
      exact B72 r1 0 τ1 hJ
    · have hJ := hJf hc39; clear hJt hJf
      refine V_iconst (v := 1) C dX6_isOrder_22 ci_1 ?_
      refine V_goto C (tgt := 72) dX6_isOrder_23 rfl ?_
      refine V_sub (lv' := [(0, .ref (ad (0, 0, 0))), (1, .int r1)]) [1, 0] rfl ?_
      exact B72 r1 1 τ1 hJ
set_option maxHeartbeats 4000000 in
set_option maxRecDepth 100000 in
theorem M_X6_reads (l : Launch) (D : va_G) (tc : Nat → ClassId) (ad : Oid → Nat) (A : Nat → Prop) {σ : Mem} {Qr : Int32 → Mem → Prop} (hJ : J_X6_reads σ Qr) : Met l yX6_reads wsX6_reads ({ frames := 4, cells := 0, slots := 0, locals := 93 }) (va_Pc [.ref (ad (0, 0, 0))] (WdI D vwCl (tysX tc) idsM ad (ceM tc ad) A σ)) (va_Qi (fun (r : Int32) (u : Mem) => Qr r u) (WdO D vwCl idsM ad (ceM tc ad) A) A) 0 0 A := by
  refine V_meti (cc := cX6_reads) (nL := 2) (ret := (some .int)) (own := RX6) rfl (plainFor_of_name (by decide)) rfl rfl (Nat.le_of_ble_eq_true rfl) ?_
  intro p e s m below meth c C hr hlocks
  refine V_sub (lv' := [(0, .ref (ad (0, 0, 0)))]) [0] rfl ?_
  have f132 : Cond.fieldLink RX6 132 (TX6 10).1 (TX6 10).2.1 (TX6 10).2.2.1 ∈ wsX6_reads := List.mem_of_getElem? (i := 1) rfl
  have uX6 : ∀ w ∈ u_ws RX6 TX6 12, w ∈ wsX6_reads := by decide +kernel
  have f128 : Cond.fieldLink RX6 128 (TX6 5).1 (TX6 5).2.1 (TX6 5).2.2.1 ∈ wsX6_reads := List.mem_of_getElem? (i := 2) rfl
  unfold J_X6_reads at hJ
  refine V_aload_n C dX6_reads_0 0 rfl ?_
  refine V_iconst (v := 0) C dX6_reads_1 ci_0 ?_
  refine V_put (ci := 6) C okM_0 uX6 tyX6 tyX6_ok nmX6 rfl 10 (Nat.le_of_ble_eq_true rfl) rfl rfl f132 rfl (ty := .int) (by decide +kernel) rfl rfl (Nat.le_of_ble_eq_true rfl) dX6_reads_2 (fun τ1 hτ1 => ?_)
  replace hJ := hJ τ1 hτ1
  refine V_iconst (v := 0) C dX6_reads_5 ci_0 ?_
  refine V_istore_n (lv' := [(1, .int 0), (0, .ref (ad (0, 0, 0)))]) C dX6_reads_6 (by decide) rfl ?_
  refine V_sub (lv' := [(0, .ref (ad (0, 0, 0))), (1, .int 0)]) [1, 0] rfl ?_
  obtain ⟨I7, μ7, hI7, hst7⟩ := hJ
  have L7 : ∀ (n : Nat) (x1_2 : Int32) (τ2 : Mem), μ7 x1_2 τ2 < n → I7 x1_2 τ2 → VV p l e (headSpec wsX6_reads ({ frames := 4, cells := 0, slots := 0, locals := 93 })).room s m ([.ref (ad (0, 0, 0))] : List Value).toArray below meth c D vwCl idsM ad (ceM tc ad) A (MQ below (va_Qi (fun (r : Int32) (u : Mem) => Qr r u) (WdO D vwCl idsM ad (ceM tc ad) A) A) ([.ref (ad (0, 0, 0))] : List Value).toArray s 0 0 A) 2 7 [(0, .ref (ad (0, 0, 0))), (1, .int x1_2)] [] τ2 := by
    intro n
    induction n with
    | zero => intro x1_2 τ2 hμ _; exact absurd hμ (Nat.not_lt_zero _)
    | succ n ihn =>
      intro x1_2 τ2 hμ7 hJ
      have ih7 := ihn
      replace hJ := hst7 x1_2 τ2 hJ
      refine V_aload_n C dX6_reads_7 0 rfl ?_
      refine V_get (ci := 6) C okM_0 uX6 rfl 10 (Nat.le_of_ble_eq_true rfl) rfl rfl f132 dX6_reads_8 ?_
      refine V_aload_n C dX6_reads_11 0 rfl ?_
      refine V_get (ci := 6) C okM_0 uX6 rfl 5 (Nat.le_of_ble_eq_true rfl) rfl rfl f128 dX6_reads_12 ?_
      obtain ⟨hJt, hJf⟩ := hJ
      refine V_icmp_ge C (tgt := 33) dX6_reads_15 rfl (fun hc3 => ?_) (fun hc3 => ?_)
      · have hJ := hJt hc3; clear hJt hJf
        refine V_iload_n C dX6_reads_33 1 rfl ?_
        exact V_iret C hr hlocks dX6_reads_34 hJ
      · have hJ := hJf hc3; clear hJt hJf
        refine V_aload_n C dX6_reads_18 0 rfl ?_
        refine V_cVi (st := []) (ci := 6) C okM_0 (M_X6_isOrder l D tc ad A  hJ) (cwV 0 C.1.2.2.2.2 gX6_reads_X6_isOrder rfl rfl rfl (by decide +kernel) ⟨Nat.le_of_ble_eq_true rfl, Nat.le_of_ble_eq_true rfl⟩) rfl rfl rfl rfl (Nat.le_of_ble_eq_true rfl) dX6_reads_19 (fun r4 τ4 hJ => ?_)
        obtain ⟨hJt, hJf⟩ := hJ
        refine V_if_ne C (tgt := 27) dX6_reads_22 rfl (fun hc5 => ?_) (fun hc5 => ?_)
        · have hJ := hJt hc5; clear hJt hJf
          obtain ⟨x1_6, hx1_6⟩ : ∃ y : Int32, y = x1_2 + 1 := ⟨_, rfl⟩
          replace hJ := hJ x1_6 hx1_6
          refine V_iinc (v := x1_6) (lv' := [(1, .int x1_6), (0, .ref (ad (0, 0, 0)))]) C dX6_reads_27 1 rfl (by rw [hx1_6]; exact congrArg _ ci_1) (by decide) rfl ?_
          refine V_goto C (tgt := 7) dX6_reads_30 rfl ?_
          refine V_sub (lv' := [(0, .ref (ad (0, 0, 0))), (1, .int x1_6)]) [1, 0] rfl ?_
          exact ih7 x1_6 τ4 (Nat.lt_of_lt_of_le hJ.2 (Nat.le_of_lt_succ hμ7)) hJ.1
        · have hJ := hJf hc5; clear hJt hJf
          refine V_iconst (v := (-1)) C dX6_reads_25 ci_m1 ?_
          exact V_iret C hr hlocks dX6_reads_26 hJ
  exact L7 _ 0 τ1 (Nat.lt_succ_self _) hI7
set_option maxHeartbeats 4000000 in
set_option maxRecDepth 100000 in
theorem M_X6_faultPosition (l : Launch) (D : va_G) (tc : Nat → ClassId) (ad : Oid → Nat) (A : Nat → Prop) {σ : Mem} {Qr : Int32 → Mem → Prop} (hJ : J_X6_faultPosition σ Qr) : Met l yX6_faultPosition wsX6_faultPosition ({ frames := 5, cells := 0, slots := 0, locals := 114 }) (va_Pc [.ref (ad (0, 0, 0))] (WdI D vwCl (tysX tc) idsM ad (ceM tc ad) A σ)) (va_Qi (fun (r : Int32) (u : Mem) => Qr r u) (WdO D vwCl idsM ad (ceM tc ad) A) A) 0 0 A := by
  refine V_meti (cc := cX6_faultPosition) (nL := 2) (ret := (some .int)) (own := RX6) rfl (plainFor_of_name (by decide)) rfl rfl (Nat.le_of_ble_eq_true rfl) ?_
  intro p e s m below meth c C hr hlocks
  refine V_sub (lv' := [(0, .ref (ad (0, 0, 0)))]) [0] rfl ?_
  have f132 : Cond.fieldLink RX6 132 (TX6 10).1 (TX6 10).2.1 (TX6 10).2.2.1 ∈ wsX6_faultPosition := List.mem_of_getElem? (i := 1) rfl
  have uX6 : ∀ w ∈ u_ws RX6 TX6 12, w ∈ wsX6_faultPosition := by decide +kernel
  unfold J_X6_faultPosition at hJ
  refine V_aload_n C dX6_faultPosition_0 0 rfl ?_
  refine V_cVv (st := []) (ci := 6) C okM_0 (M_X6_keeps l D tc ad A  hJ) (cwV 0 C.1.2.2.2.2 gX6_faultPosition_X6_keeps rfl rfl rfl (by decide +kernel) ⟨Nat.le_of_ble_eq_true rfl, Nat.le_of_ble_eq_true rfl⟩) rfl rfl rfl rfl (Nat.le_of_ble_eq_true rfl) dX6_faultPosition_1 (fun τ1 hJ => ?_)
  refine V_aload_n C dX6_faultPosition_4 0 rfl ?_
  refine V_cVi (st := []) (ci := 6) C okM_0 (M_X6_reads l D tc ad A  hJ) (cwV 0 C.1.2.2.2.2 gX6_faultPosition_X6_reads rfl rfl rfl (by decide +kernel) ⟨Nat.le_of_ble_eq_true rfl, Nat.le_of_ble_eq_true rfl⟩) rfl rfl rfl rfl (Nat.le_of_ble_eq_true rfl) dX6_faultPosition_5 (fun r2 τ2 hJ => ?_)
  refine V_istore_n (lv' := [(1, .int r2), (0, .ref (ad (0, 0, 0)))]) C dX6_faultPosition_8 (by decide) rfl ?_
  refine V_aload_n C dX6_faultPosition_9 1 rfl ?_
  refine V_cVv (st := []) (ci := 6) C okM_0 (M_X6_brings l D tc ad A  hJ) (cwV 0 C.1.2.2.2.2 gX6_faultPosition_X6_brings rfl rfl rfl (by decide +kernel) ⟨Nat.le_of_ble_eq_true rfl, Nat.le_of_ble_eq_true rfl⟩) rfl rfl rfl rfl (Nat.le_of_ble_eq_true rfl) dX6_faultPosition_10 (fun τ3 hJ => ?_)
  refine V_iload_n C dX6_faultPosition_13 0 rfl ?_
  obtain ⟨hJt, hJf⟩ := hJ
  refine V_if_ge C (tgt := 24) dX6_faultPosition_14 rfl (fun hc4 => ?_) (fun hc4 => ?_)
  · have hJ := hJt hc4; clear hJt hJf
    refine V_bipush (v := (-105)) C dX6_faultPosition_24 cb_m105 ?_
    exact V_iret C hr hlocks dX6_faultPosition_26 hJ
  · have hJ := hJf hc4; clear hJt hJf
    refine V_aload_n C dX6_faultPosition_17 1 rfl ?_
    refine V_get (ci := 6) C okM_0 uX6 rfl 10 (Nat.le_of_ble_eq_true rfl) rfl rfl f132 dX6_faultPosition_18 ?_
    refine V_goto C (tgt := 26) dX6_faultPosition_21 rfl ?_
    exact V_iret C hr hlocks dX6_faultPosition_26 hJ
set_option maxHeartbeats 4000000 in
set_option maxRecDepth 100000 in
theorem M_X6_gain (l : Launch) (D : va_G) (tc : Nat → ClassId) (ad : Oid → Nat) (A : Nat → Prop) (x1 : Int32) (x2 : Int32) {σ : Mem} {Qr : Int32 → Mem → Prop} (hJ : J_X6_gain x1 x2 σ Qr) : Met l yX6_gain wsX6_gain ({ frames := 5, cells := 0, slots := 0, locals := 113 }) (va_Pc [.ref (ad (0, 0, 0)), .int x1, .int x2] (WdI D vwCl (tysX tc) idsM ad (ceM tc ad) A σ)) (va_Qi (fun (r : Int32) (u : Mem) => Qr r u) (WdO D vwCl idsM ad (ceM tc ad) A) A) 0 0 A := by
  refine V_meti (cc := cX6_gain) (nL := 3) (ret := (some .int)) (own := RX6) rfl (plainFor_of_name (by decide)) rfl rfl (Nat.le_of_ble_eq_true rfl) ?_
  intro p e s m below meth c C hr hlocks
  refine V_sub (lv' := [(0, .ref (ad (0, 0, 0))), (1, .int x1), (2, .int x2)]) [0, 1, 2] rfl ?_
  unfold J_X6_gain at hJ
  refine V_aload_n C dX6_gain_0 0 rfl ?_
  refine V_iload_n C dX6_gain_1 1 rfl ?_
  refine V_cVi (st := []) (ci := 6) C okM_0 (M_X6_isUser l D tc ad A x1 hJ) (cwV 1 C.1.2.2.2.2 gX6_gain_X6_isUser rfl rfl rfl (by decide +kernel) ⟨Nat.le_of_ble_eq_true rfl, Nat.le_of_ble_eq_true rfl⟩) rfl rfl rfl rfl (Nat.le_of_ble_eq_true rfl) dX6_gain_2 (fun r1 τ1 hJ => ?_)
  obtain ⟨hJt, hJf⟩ := hJ
  refine V_if_eq C (tgt := 16) dX6_gain_5 rfl (fun hc2 => ?_) (fun hc2 => ?_)
  · have hJ := hJt hc2; clear hJt hJf
    refine V_bipush (v := (-101)) C dX6_gain_16 cb_m101 ?_
    exact V_iret C hr hlocks dX6_gain_18 hJ
  · have hJ := hJf hc2; clear hJt hJf
    refine V_aload_n C dX6_gain_8 0 rfl ?_
    refine V_iload_n C dX6_gain_9 2 rfl ?_
    refine V_cVi (st := []) (ci := 6) C okM_0 (M_X6_isUser l D tc ad A x2 hJ) (cwV 1 C.1.2.2.2.2 gX6_gain_X6_isUser rfl rfl rfl (by decide +kernel) ⟨Nat.le_of_ble_eq_true rfl, Nat.le_of_ble_eq_true rfl⟩) rfl rfl rfl rfl (Nat.le_of_ble_eq_true rfl) dX6_gain_10 (fun r3 τ3 hJ => ?_)
    obtain ⟨hJt, hJf⟩ := hJ
    refine V_if_ne C (tgt := 19) dX6_gain_13 rfl (fun hc4 => ?_) (fun hc4 => ?_)
    · have hJ := hJt hc4; clear hJt hJf
      refine V_aload_n C dX6_gain_19 0 rfl ?_
      refine V_iload_n C dX6_gain_20 1 rfl ?_
      refine V_iload_n C dX6_gain_21 2 rfl ?_
      refine V_cVi (st := []) (ci := 6) C okM_0 (M_X6_isOlder l D tc ad A x1 x2 hJ) (cwV 2 C.1.2.2.2.2 gX6_gain_X6_isOlder rfl rfl rfl (by decide +kernel) ⟨Nat.le_of_ble_eq_true rfl, Nat.le_of_ble_eq_true rfl⟩) rfl rfl rfl rfl (Nat.le_of_ble_eq_true rfl) dX6_gain_22 (fun r5 τ5 hJ => ?_)
      obtain ⟨hJt, hJf⟩ := hJ
      refine V_if_eq C (tgt := 37) dX6_gain_25 rfl (fun hc6 => ?_) (fun hc6 => ?_)
      · have hJ := hJt hc6; clear hJt hJf
        refine V_bipush (v := (-103)) C dX6_gain_37 cb_m103 ?_
        exact V_iret C hr hlocks dX6_gain_39 hJ
      · have hJ := hJf hc6; clear hJt hJf
        refine V_aload_n C dX6_gain_28 0 rfl ?_
        refine V_iload_n C dX6_gain_29 1 rfl ?_
        refine V_iload_n C dX6_gain_30 2 rfl ?_
        refine V_cVi (st := []) (ci := 6) C okM_0 (M_X6_gainOf l D tc ad A x1 x2 hJ) (cwV 2 C.1.2.2.2.2 gX6_gain_X6_gainOf rfl rfl rfl (by decide +kernel) ⟨Nat.le_of_ble_eq_true rfl, Nat.le_of_ble_eq_true rfl⟩) rfl rfl rfl rfl (Nat.le_of_ble_eq_true rfl) dX6_gain_31 (fun r7 τ7 hJ => ?_)
        refine V_goto C (tgt := 39) dX6_gain_34 rfl ?_
        exact V_iret C hr hlocks dX6_gain_39 hJ
    · have hJ := hJf hc4; clear hJt hJf
      refine V_bipush (v := (-101)) C dX6_gain_16 cb_m101 ?_
      exact V_iret C hr hlocks dX6_gain_18 hJ
set_option maxHeartbeats 4000000 in
set_option maxRecDepth 100000 in
theorem M_X6_gets (l : Launch) (D : va_G) (tc : Nat → ClassId) (ad : Oid → Nat) (A : Nat → Prop) (x1 : Int32) {σ : Mem} {Qr : Int32 → Mem → Prop} (hJ : J_X6_gets x1 σ Qr) : Met l yX6_gets wsX6_gets ({ frames := 4, cells := 0, slots := 0, locals := 89 }) (va_Pc [.ref (ad (0, 0, 0)), .int x1] (WdI D vwCl (tysX tc) idsM ad (ceM tc ad) A σ)) (va_Qi (fun (r : Int32) (u : Mem) => Qr r u) (WdO D vwCl idsM ad (ceM tc ad) A) A) 0 0 A := by
  refine V_meti (cc := cX6_gets) (nL := 2) (ret := (some .int)) (own := RX6) rfl (plainFor_of_name (by decide)) rfl rfl (Nat.le_of_ble_eq_true rfl) ?_
  intro p e s m below meth c C hr hlocks
  refine V_sub (lv' := [(0, .ref (ad (0, 0, 0))), (1, .int x1)]) [0, 1] rfl ?_
  have f29 : Cond.fieldLink RX6 29 (TX6 7).1 (TX6 7).2.1 (TX6 7).2.2.1 ∈ wsX6_gets := List.mem_of_getElem? (i := 1) rfl
  have uX6 : ∀ w ∈ u_ws RX6 TX6 12, w ∈ wsX6_gets := by decide +kernel
  unfold J_X6_gets at hJ
  refine V_aload_n C dX6_gets_0 0 rfl ?_
  refine V_iload_n C dX6_gets_1 1 rfl ?_
  refine V_cVi (st := []) (ci := 6) C okM_0 (M_X6_isUser l D tc ad A x1 hJ) (cwV 1 C.1.2.2.2.2 gX6_gets_X6_isUser rfl rfl rfl (by decide +kernel) ⟨Nat.le_of_ble_eq_true rfl, Nat.le_of_ble_eq_true rfl⟩) rfl rfl rfl rfl (Nat.le_of_ble_eq_true rfl) dX6_gets_2 (fun r1 τ1 hJ => ?_)
  obtain ⟨hJt, hJf⟩ := hJ
  refine V_if_ne C (tgt := 11) dX6_gets_5 rfl (fun hc2 => ?_) (fun hc2 => ?_)
  · have hJ := hJt hc2; clear hJt hJf
    refine V_aload_n C dX6_gets_11 0 rfl ?_
    refine V_cVv (st := []) (ci := 6) C okM_0 (M_X6_distributes l D tc ad A  hJ) (cwV 0 C.1.2.2.2.2 gX6_gets_X6_distributes rfl rfl rfl (by decide +kernel) ⟨Nat.le_of_ble_eq_true rfl, Nat.le_of_ble_eq_true rfl⟩) rfl rfl rfl rfl (Nat.le_of_ble_eq_true rfl) dX6_gets_12 (fun τ3 hJ => ?_)
    refine V_aload_n C dX6_gets_15 0 rfl ?_
    refine V_get (ci := 6) C okM_0 uX6 rfl 7 (Nat.le_of_ble_eq_true rfl) rfl rfl f29 dX6_gets_16 ?_
    refine V_iload_n C dX6_gets_19 1 rfl ?_
    obtain ⟨hv4, hJ⟩ := hJ
    refine V_iald C okM_7 0 rfl rfl rfl hv4 dX6_gets_20 ?_
    exact V_iret C hr hlocks dX6_gets_21 hJ
  · have hJ := hJf hc2; clear hJt hJf
    refine V_bipush (v := (-101)) C dX6_gets_8 cb_m101 ?_
    exact V_iret C hr hlocks dX6_gets_10 hJ
set_option maxHeartbeats 4000000 in
set_option maxRecDepth 100000 in
theorem M_X6_isFull (l : Launch) (D : va_G) (tc : Nat → ClassId) (ad : Oid → Nat) (A : Nat → Prop) (x1 : Int32) {σ : Mem} {Qr : Int32 → Mem → Prop} (hJ : J_X6_isFull x1 σ Qr) : Met l yX6_isFull wsX6_isFull ({ frames := 0, cells := 0, slots := 0, locals := 0 }) (va_Pc [.ref (ad (0, 0, 0)), .int x1] (WdI D vwCl (tysX tc) idsM ad (ceM tc ad) A σ)) (va_Qi (fun (r : Int32) (u : Mem) => Qr r u) (WdO D vwCl idsM ad (ceM tc ad) A) A) 0 0 A := by
  refine V_meti (cc := cX6_isFull) (nL := 2) (ret := (some .boolean)) (own := RX6) rfl (plainFor_of_name (by decide)) rfl rfl (Nat.le_of_ble_eq_true rfl) ?_
  intro p e s m below meth c C hr hlocks
  refine V_sub (lv' := [(0, .ref (ad (0, 0, 0))), (1, .int x1)]) [0, 1] rfl ?_
  have f7 : Cond.fieldLink RX6 7 (TX6 0).1 (TX6 0).2.1 (TX6 0).2.2.1 ∈ wsX6_isFull := List.mem_of_getElem? (i := 1) rfl
  have uX6 : ∀ w ∈ u_ws RX6 TX6 12, w ∈ wsX6_isFull := by decide +kernel
  unfold J_X6_isFull at hJ
  refine V_aload_n C dX6_isFull_0 0 rfl ?_
  refine V_get (ci := 6) C okM_0 uX6 rfl 0 (Nat.le_of_ble_eq_true rfl) rfl rfl f7 dX6_isFull_1 ?_
  refine V_sipush (v := 154) C dX6_isFull_4 cs_154 ?_
  refine V_iload_n C dX6_isFull_7 1 rfl ?_
  refine V_iadd C dX6_isFull_8 ?_
  obtain ⟨hv1, hJ⟩ := hJ
  refine V_iald C okM_1 0 rfl rfl rfl hv1 dX6_isFull_9 ?_
  refine V_aload_n C dX6_isFull_10 0 rfl ?_
  refine V_get (ci := 6) C okM_0 uX6 rfl 0 (Nat.le_of_ble_eq_true rfl) rfl rfl f7 dX6_isFull_11 ?_
  refine V_sipush (v := 142) C dX6_isFull_14 cs_142 ?_
  refine V_iload_n C dX6_isFull_17 1 rfl ?_
  refine V_iadd C dX6_isFull_18 ?_
  obtain ⟨hv2, hJ⟩ := hJ
  refine V_iald C okM_1 0 rfl rfl rfl hv2 dX6_isFull_19 ?_
  obtain ⟨hJt, hJf⟩ := hJ
  refine V_icmp_ne C (tgt := 27) dX6_isFull_20 rfl (fun hc3 => ?_) (fun hc3 => ?_)
  · have hJ := hJt hc3; clear hJt hJf
    refine V_iconst (v := 0) C dX6_isFull_27 ci_0 ?_
    exact V_zret C hr hlocks (Or.inl rfl) dX6_isFull_28 hJ
  · have hJ := hJf hc3; clear hJt hJf
    refine V_iconst (v := 1) C dX6_isFull_23 ci_1 ?_
    refine V_goto C (tgt := 28) dX6_isFull_24 rfl ?_
    exact V_zret C hr hlocks (Or.inr rfl) dX6_isFull_28 hJ
set_option maxHeartbeats 4000000 in
set_option maxRecDepth 100000 in
theorem M_X6_hoursToFull (l : Launch) (D : va_G) (tc : Nat → ClassId) (ad : Oid → Nat) (A : Nat → Prop) (x1 : Int32) {σ : Mem} {Qr : Int32 → Mem → Prop} (hJ : J_X6_hoursToFull x1 σ Qr) : Met l yX6_hoursToFull wsX6_hoursToFull ({ frames := 5, cells := 0, slots := 0, locals := 115 }) (va_Pc [.ref (ad (0, 0, 0)), .int x1] (WdI D vwCl (tysX tc) idsM ad (ceM tc ad) A σ)) (va_Qi (fun (r : Int32) (u : Mem) => Qr r u) (WdO D vwCl idsM ad (ceM tc ad) A) A) 0 0 A := by
  refine V_meti (cc := cX6_hoursToFull) (nL := 4) (ret := (some .int)) (own := RX6) rfl (plainFor_of_name (by decide)) rfl rfl (Nat.le_of_ble_eq_true rfl) ?_
  intro p e s m below meth c C hr hlocks
  refine V_sub (lv' := [(0, .ref (ad (0, 0, 0))), (1, .int x1)]) [0, 1] rfl ?_
  have B41 : ∀ (b1 : Int32) (b2 : Int32) (τ : Mem), J_X6_hoursToFull_b41 x1  b1 b2 τ Qr → VV p l e (headSpec wsX6_hoursToFull ({ frames := 5, cells := 0, slots := 0, locals := 115 })).room s m ([.ref (ad (0, 0, 0)), .int x1] : List Value).toArray below meth c D vwCl idsM ad (ceM tc ad) A (MQ below (va_Qi (fun (r : Int32) (u : Mem) => Qr r u) (WdO D vwCl idsM ad (ceM tc ad) A) A) ([.ref (ad (0, 0, 0)), .int x1] : List Value).toArray s 0 0 A) 4 41 [(0, .ref (ad (0, 0, 0))), (1, .int b1), (2, .int b2)] [] τ := by
    intro b1 b2 τ hJ
    unfold J_X6_hoursToFull_b41 at hJ
    refine V_aload_n C dX6_hoursToFull_41 0 rfl ?_
    refine V_iload_n C dX6_hoursToFull_42 1 rfl ?_
    refine V_cVi (st := []) (ci := 6) C okM_0 (M_X6_isFull l D tc ad A b1 hJ) (cwV 1 C.1.2.2.2.2 gX6_hoursToFull_X6_isFull rfl rfl rfl (by decide +kernel) ⟨Nat.le_of_ble_eq_true rfl, Nat.le_of_ble_eq_true rfl⟩) rfl rfl rfl rfl (Nat.le_of_ble_eq_true rfl) dX6_hoursToFull_43 (fun r6 τ6 hJ => ?_)
    obtain ⟨hJt, hJf⟩ := hJ
    refine V_if_eq C (tgt := 53) dX6_hoursToFull_46 rfl (fun hc7 => ?_) (fun hc7 => ?_)
    · have hJ := hJt hc7; clear hJt hJf
      refine V_bipush (v := (-105)) C dX6_hoursToFull_53 cb_m105 ?_
      refine V_istore_n (lv' := [(3, .int (-105)), (0, .ref (ad (0, 0, 0))), (1, .int b1), (2, .int b2)]) C dX6_hoursToFull_55 (by decide) rfl ?_
      refine V_aload_n C dX6_hoursToFull_56 1 rfl ?_
      refine V_cVv (st := []) (ci := 6) C okM_0 (M_X6_brings l D tc ad A  hJ) (cwV 0 C.1.2.2.2.2 gX6_hoursToFull_X6_brings rfl rfl rfl (by decide +kernel) ⟨Nat.le_of_ble_eq_true rfl, Nat.le_of_ble_eq_true rfl⟩) rfl rfl rfl rfl (Nat.le_of_ble_eq_true rfl) dX6_hoursToFull_57 (fun τ8 hJ => ?_)
      refine V_iload_n C dX6_hoursToFull_60 0 rfl ?_
      exact V_iret C hr hlocks dX6_hoursToFull_61 hJ
    · have hJ := hJf hc7; clear hJt hJf
      refine V_iload_n C dX6_hoursToFull_49 2 rfl ?_
      refine V_goto C (tgt := 55) dX6_hoursToFull_50 rfl ?_
      refine V_istore_n (lv' := [(3, .int b2), (0, .ref (ad (0, 0, 0))), (1, .int b1), (2, .int b2)]) C dX6_hoursToFull_55 (by decide) rfl ?_
      refine V_aload_n C dX6_hoursToFull_56 1 rfl ?_
      refine V_cVv (st := []) (ci := 6) C okM_0 (M_X6_brings l D tc ad A  hJ) (cwV 0 C.1.2.2.2.2 gX6_hoursToFull_X6_brings rfl rfl rfl (by decide +kernel) ⟨Nat.le_of_ble_eq_true rfl, Nat.le_of_ble_eq_true rfl⟩) rfl rfl rfl rfl (Nat.le_of_ble_eq_true rfl) dX6_hoursToFull_57 (fun τ9 hJ => ?_)
      refine V_iload_n C dX6_hoursToFull_60 0 rfl ?_
      exact V_iret C hr hlocks dX6_hoursToFull_61 hJ
  unfold J_X6_hoursToFull at hJ
  refine V_aload_n C dX6_hoursToFull_0 0 rfl ?_
  refine V_iload_n C dX6_hoursToFull_1 1 rfl ?_
  refine V_cVi (st := []) (ci := 6) C okM_0 (M_X6_isUser l D tc ad A x1 hJ) (cwV 1 C.1.2.2.2.2 gX6_hoursToFull_X6_isUser rfl rfl rfl (by decide +kernel) ⟨Nat.le_of_ble_eq_true rfl, Nat.le_of_ble_eq_true rfl⟩) rfl rfl rfl rfl (Nat.le_of_ble_eq_true rfl) dX6_hoursToFull_2 (fun r1 τ1 hJ => ?_)
  obtain ⟨hJt, hJf⟩ := hJ
  refine V_if_ne C (tgt := 11) dX6_hoursToFull_5 rfl (fun hc2 => ?_) (fun hc2 => ?_)
  · have hJ := hJt hc2; clear hJt hJf
    refine V_aload_n C dX6_hoursToFull_11 0 rfl ?_
    refine V_cVv (st := []) (ci := 6) C okM_0 (M_X6_keeps l D tc ad A  hJ) (cwV 0 C.1.2.2.2.2 gX6_hoursToFull_X6_keeps rfl rfl rfl (by decide +kernel) ⟨Nat.le_of_ble_eq_true rfl, Nat.le_of_ble_eq_true rfl⟩) rfl rfl rfl rfl (Nat.le_of_ble_eq_true rfl) dX6_hoursToFull_12 (fun τ3 hJ => ?_)
    refine V_iconst (v := 0) C dX6_hoursToFull_15 ci_0 ?_
    refine V_istore_n (lv' := [(2, .int 0), (0, .ref (ad (0, 0, 0))), (1, .int x1)]) C dX6_hoursToFull_16 (by decide) rfl ?_
    refine V_sub (lv' := [(0, .ref (ad (0, 0, 0))), (1, .int x1), (2, .int 0)]) [1, 2, 0] rfl ?_
    obtain ⟨I17, μ17, hI17, hst17⟩ := hJ
    have L17 : ∀ (n : Nat) (x2_4 : Int32) (τ4 : Mem), μ17 x2_4 τ4 < n → I17 x2_4 τ4 → VV p l e (headSpec wsX6_hoursToFull ({ frames := 5, cells := 0, slots := 0, locals := 115 })).room s m ([.ref (ad (0, 0, 0)), .int x1] : List Value).toArray below meth c D vwCl idsM ad (ceM tc ad) A (MQ below (va_Qi (fun (r : Int32) (u : Mem) => Qr r u) (WdO D vwCl idsM ad (ceM tc ad) A) A) ([.ref (ad (0, 0, 0)), .int x1] : List Value).toArray s 0 0 A) 4 17 [(0, .ref (ad (0, 0, 0))), (1, .int x1), (2, .int x2_4)] [] τ4 := by
      intro n
      induction n with
      | zero => intro x2_4 τ4 hμ _; exact absurd hμ (Nat.not_lt_zero _)
      | succ n ihn =>
        intro x2_4 τ4 hμ17 hJ
        have ih17 := ihn
        replace hJ := hst17 x2_4 τ4 hJ
        refine V_iload_n C dX6_hoursToFull_17 2 rfl ?_
        refine V_bipush (v := 48) C dX6_hoursToFull_18 cb_48 ?_
        obtain ⟨hJt, hJf⟩ := hJ
        refine V_icmp_ge C (tgt := 41) dX6_hoursToFull_20 rfl (fun hc5 => ?_) (fun hc5 => ?_)
        · have hJ := hJt hc5; clear hJt hJf
          exact B41 x1 x2_4 τ4 hJ
        · have hJ := hJf hc5; clear hJt hJf
          refine V_aload_n C dX6_hoursToFull_23 0 rfl ?_
          refine V_iload_n C dX6_hoursToFull_24 1 rfl ?_
          refine V_cVi (st := []) (ci := 6) C okM_0 (M_X6_isFull l D tc ad A x1 hJ) (cwV 1 C.1.2.2.2.2 gX6_hoursToFull_X6_isFull rfl rfl rfl (by decide +kernel) ⟨Nat.le_of_ble_eq_true rfl, Nat.le_of_ble_eq_true rfl⟩) rfl rfl rfl rfl (Nat.le_of_ble_eq_true rfl) dX6_hoursToFull_25 (fun r10 τ10 hJ => ?_)
          obtain ⟨hJt, hJf⟩ := hJ
          refine V_if_ne C (tgt := 41) dX6_hoursToFull_28 rfl (fun hc11 => ?_) (fun hc11 => ?_)
          · have hJ := hJt hc11; clear hJt hJf
            exact B41 x1 x2_4 τ10 hJ
          · have hJ := hJf hc11; clear hJt hJf
            refine V_aload_n C dX6_hoursToFull_31 0 rfl ?_
            refine V_cVv (st := []) (ci := 6) C okM_0 (M_X6_passes l D tc ad A  hJ) (cwV 0 C.1.2.2.2.2 gX6_hoursToFull_X6_passes rfl rfl rfl (by decide +kernel) ⟨Nat.le_of_ble_eq_true rfl, Nat.le_of_ble_eq_true rfl⟩) rfl rfl rfl rfl (Nat.le_of_ble_eq_true rfl) dX6_hoursToFull_32 (fun τ12 hJ => ?_)
            obtain ⟨x2_13, hx2_13⟩ : ∃ y : Int32, y = x2_4 + 1 := ⟨_, rfl⟩
            replace hJ := hJ x2_13 hx2_13
            refine V_iinc (v := x2_13) (lv' := [(2, .int x2_13), (0, .ref (ad (0, 0, 0))), (1, .int x1)]) C dX6_hoursToFull_35 2 rfl (by rw [hx2_13]; exact congrArg _ ci_1) (by decide) rfl ?_
            refine V_goto C (tgt := 17) dX6_hoursToFull_38 rfl ?_
            refine V_sub (lv' := [(0, .ref (ad (0, 0, 0))), (1, .int x1), (2, .int x2_13)]) [1, 2, 0] rfl ?_
            exact ih17 x2_13 τ12 (Nat.lt_of_lt_of_le hJ.2 (Nat.le_of_lt_succ hμ17)) hJ.1
    exact L17 _ 0 τ3 (Nat.lt_succ_self _) hI17
  · have hJ := hJf hc2; clear hJt hJf
    refine V_bipush (v := (-101)) C dX6_hoursToFull_8 cb_m101 ?_
    exact V_iret C hr hlocks dX6_hoursToFull_10 hJ
set_option maxHeartbeats 4000000 in
set_option maxRecDepth 100000 in
theorem M_X6_inflow (l : Launch) (D : va_G) (tc : Nat → ClassId) (ad : Oid → Nat) (A : Nat → Prop) (x1 : Int32) {σ : Mem} {Qr : Int32 → Mem → Prop} (hJ : J_X6_inflow x1 σ Qr) : Met l yX6_inflow wsX6_inflow ({ frames := 4, cells := 0, slots := 0, locals := 89 }) (va_Pc [.ref (ad (0, 0, 0)), .int x1] (WdI D vwCl (tysX tc) idsM ad (ceM tc ad) A σ)) (va_Qi (fun (r : Int32) (u : Mem) => Qr r u) (WdO D vwCl idsM ad (ceM tc ad) A) A) 0 0 A := by
  refine V_meti (cc := cX6_inflow) (nL := 2) (ret := (some .int)) (own := RX6) rfl (plainFor_of_name (by decide)) rfl rfl (Nat.le_of_ble_eq_true rfl) ?_
  intro p e s m below meth c C hr hlocks
  refine V_sub (lv' := [(0, .ref (ad (0, 0, 0))), (1, .int x1)]) [0, 1] rfl ?_
  have f32 : Cond.fieldLink RX6 32 (TX6 8).1 (TX6 8).2.1 (TX6 8).2.2.1 ∈ wsX6_inflow := List.mem_of_getElem? (i := 1) rfl
  have uX6 : ∀ w ∈ u_ws RX6 TX6 12, w ∈ wsX6_inflow := by decide +kernel
  unfold J_X6_inflow at hJ
  refine V_aload_n C dX6_inflow_0 0 rfl ?_
  refine V_iload_n C dX6_inflow_1 1 rfl ?_
  refine V_cVi (st := []) (ci := 6) C okM_0 (M_X6_isDitch l D tc ad A x1 hJ) (cwV 1 C.1.2.2.2.2 gX6_inflow_X6_isDitch rfl rfl rfl (by decide +kernel) ⟨Nat.le_of_ble_eq_true rfl, Nat.le_of_ble_eq_true rfl⟩) rfl rfl rfl rfl (Nat.le_of_ble_eq_true rfl) dX6_inflow_2 (fun r1 τ1 hJ => ?_)
  obtain ⟨hJt, hJf⟩ := hJ
  refine V_if_ne C (tgt := 11) dX6_inflow_5 rfl (fun hc2 => ?_) (fun hc2 => ?_)
  · have hJ := hJt hc2; clear hJt hJf
    refine V_aload_n C dX6_inflow_11 0 rfl ?_
    refine V_cVv (st := []) (ci := 6) C okM_0 (M_X6_distributes l D tc ad A  hJ) (cwV 0 C.1.2.2.2.2 gX6_inflow_X6_distributes rfl rfl rfl (by decide +kernel) ⟨Nat.le_of_ble_eq_true rfl, Nat.le_of_ble_eq_true rfl⟩) rfl rfl rfl rfl (Nat.le_of_ble_eq_true rfl) dX6_inflow_12 (fun τ3 hJ => ?_)
    refine V_aload_n C dX6_inflow_15 0 rfl ?_
    refine V_get (ci := 6) C okM_0 uX6 rfl 8 (Nat.le_of_ble_eq_true rfl) rfl rfl f32 dX6_inflow_16 ?_
    refine V_iload_n C dX6_inflow_19 1 rfl ?_
    obtain ⟨hv4, hJ⟩ := hJ
    refine V_iald C okM_8 0 rfl rfl rfl hv4 dX6_inflow_20 ?_
    exact V_iret C hr hlocks dX6_inflow_21 hJ
  · have hJ := hJf hc2; clear hJt hJf
    refine V_bipush (v := (-101)) C dX6_inflow_8 cb_m101 ?_
    exact V_iret C hr hlocks dX6_inflow_10 hJ
set_option maxHeartbeats 4000000 in
set_option maxRecDepth 100000 in
theorem M_X6_isShut (l : Launch) (D : va_G) (tc : Nat → ClassId) (ad : Oid → Nat) (A : Nat → Prop) (x1 : Int32) {σ : Mem} {Qr : Int32 → Mem → Prop} (hJ : J_X6_isShut x1 σ Qr) : Met l yX6_isShut wsX6_isShut ({ frames := 2, cells := 0, slots := 0, locals := 43 }) (va_Pc [.ref (ad (0, 0, 0)), .int x1] (WdI D vwCl (tysX tc) idsM ad (ceM tc ad) A σ)) (va_Qi (fun (r : Int32) (u : Mem) => Qr r u) (WdO D vwCl idsM ad (ceM tc ad) A) A) 0 0 A := by
  refine V_meti (cc := cX6_isShut) (nL := 2) (ret := (some .int)) (own := RX6) rfl (plainFor_of_name (by decide)) rfl rfl (Nat.le_of_ble_eq_true rfl) ?_
  intro p e s m below meth c C hr hlocks
  refine V_sub (lv' := [(0, .ref (ad (0, 0, 0))), (1, .int x1)]) [0, 1] rfl ?_
  have f7 : Cond.fieldLink RX6 7 (TX6 0).1 (TX6 0).2.1 (TX6 0).2.2.1 ∈ wsX6_isShut := List.mem_of_getElem? (i := 1) rfl
  have uX6 : ∀ w ∈ u_ws RX6 TX6 12, w ∈ wsX6_isShut := by decide +kernel
  unfold J_X6_isShut at hJ
  refine V_aload_n C dX6_isShut_0 0 rfl ?_
  refine V_iload_n C dX6_isShut_1 1 rfl ?_
  refine V_cVi (st := []) (ci := 6) C okM_0 (M_X6_isUser l D tc ad A x1 hJ) (cwV 1 C.1.2.2.2.2 gX6_isShut_X6_isUser rfl rfl rfl (by decide +kernel) ⟨Nat.le_of_ble_eq_true rfl, Nat.le_of_ble_eq_true rfl⟩) rfl rfl rfl rfl (Nat.le_of_ble_eq_true rfl) dX6_isShut_2 (fun r1 τ1 hJ => ?_)
  obtain ⟨hJt, hJf⟩ := hJ
  refine V_if_eq C (tgt := 21) dX6_isShut_5 rfl (fun hc2 => ?_) (fun hc2 => ?_)
  · have hJ := hJt hc2; clear hJt hJf
    refine V_bipush (v := (-101)) C dX6_isShut_21 cb_m101 ?_
    exact V_iret C hr hlocks dX6_isShut_23 hJ
  · have hJ := hJf hc2; clear hJt hJf
    refine V_aload_n C dX6_isShut_8 0 rfl ?_
    refine V_get (ci := 6) C okM_0 uX6 rfl 0 (Nat.le_of_ble_eq_true rfl) rfl rfl f7 dX6_isShut_9 ?_
    refine V_sipush (v := 202) C dX6_isShut_12 cs_202 ?_
    refine V_iload_n C dX6_isShut_15 1 rfl ?_
    refine V_iadd C dX6_isShut_16 ?_
    obtain ⟨hv3, hJ⟩ := hJ
    refine V_iald C okM_1 0 rfl rfl rfl hv3 dX6_isShut_17 ?_
    refine V_goto C (tgt := 23) dX6_isShut_18 rfl ?_
    exact V_iret C hr hlocks dX6_isShut_23 hJ
set_option maxHeartbeats 4000000 in
set_option maxRecDepth 100000 in
theorem M_X6_leastSupply (l : Launch) (D : va_G) (tc : Nat → ClassId) (ad : Oid → Nat) (A : Nat → Prop) (x1 : Int32) {σ : Mem} {Qr : Int32 → Mem → Prop} (hJ : J_X6_leastSupply x1 σ Qr) : Met l yX6_leastSupply wsX6_leastSupply ({ frames := 4, cells := 0, slots := 0, locals := 89 }) (va_Pc [.ref (ad (0, 0, 0)), .int x1] (WdI D vwCl (tysX tc) idsM ad (ceM tc ad) A σ)) (va_Qi (fun (r : Int32) (u : Mem) => Qr r u) (WdO D vwCl idsM ad (ceM tc ad) A) A) 0 0 A := by
  refine V_meti (cc := cX6_leastSupply) (nL := 6) (ret := (some .int)) (own := RX6) rfl (plainFor_of_name (by decide)) rfl rfl (Nat.le_of_ble_eq_true rfl) ?_
  intro p e s m below meth c C hr hlocks
  refine V_sub (lv' := [(0, .ref (ad (0, 0, 0))), (1, .int x1)]) [0, 1] rfl ?_
  have f7 : Cond.fieldLink RX6 7 (TX6 0).1 (TX6 0).2.1 (TX6 0).2.2.1 ∈ wsX6_leastSupply := List.mem_of_getElem? (i := 1) rfl
  have uX6 : ∀ w ∈ u_ws RX6 TX6 12, w ∈ wsX6_leastSupply := by decide +kernel
  have f29 : Cond.fieldLink RX6 29 (TX6 7).1 (TX6 7).2.1 (TX6 7).2.2.1 ∈ wsX6_leastSupply := List.mem_of_getElem? (i := 2) rfl
  have f26 : Cond.fieldLink RX6 26 (TX6 6).1 (TX6 6).2.1 (TX6 6).2.2.1 ∈ wsX6_leastSupply := List.mem_of_getElem? (i := 3) rfl
  unfold J_X6_leastSupply at hJ
  refine V_aload_n C dX6_leastSupply_0 0 rfl ?_
  refine V_iload_n C dX6_leastSupply_1 1 rfl ?_
  refine V_cVi (st := []) (ci := 6) C okM_0 (M_X6_isUser l D tc ad A x1 hJ) (cwV 1 C.1.2.2.2.2 gX6_leastSupply_X6_isUser rfl rfl rfl (by decide +kernel) ⟨Nat.le_of_ble_eq_true rfl, Nat.le_of_ble_eq_true rfl⟩) rfl rfl rfl rfl (Nat.le_of_ble_eq_true rfl) dX6_leastSupply_2 (fun r1 τ1 hJ => ?_)
  obtain ⟨hJt, hJf⟩ := hJ
  refine V_if_ne C (tgt := 11) dX6_leastSupply_5 rfl (fun hc2 => ?_) (fun hc2 => ?_)
  · have hJ := hJt hc2; clear hJt hJf
    refine V_bipush (v := 12) C dX6_leastSupply_11 cb_12 ?_
    refine V_aload_n C dX6_leastSupply_13 0 rfl ?_
    refine V_cVi (st := [.int 12]) (ci := 6) C okM_0 (M_X6_hour l D tc ad A  hJ) (cwV 0 C.1.2.2.2.2 gX6_leastSupply_X6_hour rfl rfl rfl (by decide +kernel) ⟨Nat.le_of_ble_eq_true rfl, Nat.le_of_ble_eq_true rfl⟩) rfl rfl rfl rfl (Nat.le_of_ble_eq_true rfl) dX6_leastSupply_14 (fun r3 τ3 hJ => ?_)
    refine V_iadd C dX6_leastSupply_17 ?_
    refine V_topi (fun x2_4 hx2_4 => ?_)
    replace hJ := hJ x2_4 hx2_4
    refine V_istore_n (lv' := [(2, .int x2_4), (0, .ref (ad (0, 0, 0))), (1, .int x1)]) C dX6_leastSupply_18 (by decide) rfl ?_
    refine V_aload_n C dX6_leastSupply_19 1 rfl ?_
    refine V_get (ci := 6) C okM_0 uX6 rfl 0 (Nat.le_of_ble_eq_true rfl) rfl rfl f7 dX6_leastSupply_20 ?_
    refine V_iload_n C dX6_leastSupply_23 0 rfl ?_
    obtain ⟨hv5, hJ⟩ := hJ
    refine V_iald C okM_1 0 rfl rfl rfl hv5 dX6_leastSupply_24 ?_
    refine V_topi (fun x3_6 hx3_6 => ?_)
    replace hJ := hJ x3_6 hx3_6
    refine V_istore_n (lv' := [(3, .int x3_6), (2, .int x2_4), (0, .ref (ad (0, 0, 0))), (1, .int x1)]) C dX6_leastSupply_25 (by decide) rfl ?_
    refine V_bipush (v := (-105)) C dX6_leastSupply_26 cb_m105 ?_
    refine V_istore (lv' := [(4, .int (-105)), (3, .int x3_6), (2, .int x2_4), (0, .ref (ad (0, 0, 0))), (1, .int x1)]) C dX6_leastSupply_28 (by decide) rfl ?_
    refine V_iconst (v := 0) C dX6_leastSupply_30 ci_0 ?_
    refine V_istore (lv' := [(5, .int 0), (4, .int (-105)), (3, .int x3_6), (2, .int x2_4), (0, .ref (ad (0, 0, 0))), (1, .int x1)]) C dX6_leastSupply_31 (by decide) rfl ?_
    refine V_sub (lv' := [(0, .ref (ad (0, 0, 0))), (1, .int x1), (2, .int x2_4), (3, .int x3_6), (4, .int (-105)), (5, .int 0)]) [4, 5, 3, 2, 1, 0] rfl ?_
    obtain ⟨I33, μ33, hI33, hst33⟩ := hJ
    have L33 : ∀ (n : Nat) (x4_7 : Int32) (x5_7 : Int32) (τ7 : Mem), μ33 x4_7 x5_7 τ7 < n → I33 x4_7 x5_7 τ7 → VV p l e (headSpec wsX6_leastSupply ({ frames := 4, cells := 0, slots := 0, locals := 89 })).room s m ([.ref (ad (0, 0, 0)), .int x1] : List Value).toArray below meth c D vwCl idsM ad (ceM tc ad) A (MQ below (va_Qi (fun (r : Int32) (u : Mem) => Qr r u) (WdO D vwCl idsM ad (ceM tc ad) A) A) ([.ref (ad (0, 0, 0)), .int x1] : List Value).toArray s 0 0 A) 6 33 [(0, .ref (ad (0, 0, 0))), (1, .int x1), (2, .int x2_4), (3, .int x3_6), (4, .int x4_7), (5, .int x5_7)] [] τ7 := by
      intro n
      induction n with
      | zero => intro x4_7 x5_7 τ7 hμ _; exact absurd hμ (Nat.not_lt_zero _)
      | succ n ihn =>
        intro x4_7 x5_7 τ7 hμ33 hJ
        have ih33 := ihn
        replace hJ := hst33 x4_7 x5_7 τ7 hJ
        refine V_iload C dX6_leastSupply_33 5 rfl ?_
        refine V_sipush (v := 200) C dX6_leastSupply_35 cs_200 ?_
        obtain ⟨hJt, hJf⟩ := hJ
        refine V_icmp_gt C (tgt := 88) dX6_leastSupply_38 rfl (fun hc8 => ?_) (fun hc8 => ?_)
        · have hJ := hJt hc8; clear hJt hJf
          refine V_aload_n C dX6_leastSupply_88 0 rfl ?_
          refine V_get (ci := 6) C okM_0 uX6 rfl 0 (Nat.le_of_ble_eq_true rfl) rfl rfl f7 dX6_leastSupply_89 ?_
          refine V_iload_n C dX6_leastSupply_92 2 rfl ?_
          refine V_iload_n C dX6_leastSupply_93 3 rfl ?_
          obtain ⟨hv9, hJ⟩ := hJ
          refine V_iast C okM_1 0 rfl (fun _ => rfl) rfl hv9 dX6_leastSupply_94 (fun τ10 hτ10 => ?_)
          replace hJ := hJ τ10 hτ10
          refine V_iload C dX6_leastSupply_95 4 rfl ?_
          exact V_iret C hr hlocks dX6_leastSupply_97 hJ
        · have hJ := hJf hc8; clear hJt hJf
          refine V_iload C dX6_leastSupply_41 4 rfl ?_
          obtain ⟨hJt, hJf⟩ := hJ
          refine V_if_ge C (tgt := 88) dX6_leastSupply_43 rfl (fun hc11 => ?_) (fun hc11 => ?_)
          · have hJ := hJt hc11; clear hJt hJf
            refine V_aload_n C dX6_leastSupply_88 0 rfl ?_
            refine V_get (ci := 6) C okM_0 uX6 rfl 0 (Nat.le_of_ble_eq_true rfl) rfl rfl f7 dX6_leastSupply_89 ?_
            refine V_iload_n C dX6_leastSupply_92 2 rfl ?_
            refine V_iload_n C dX6_leastSupply_93 3 rfl ?_
            obtain ⟨hv12, hJ⟩ := hJ
            refine V_iast C okM_1 0 rfl (fun _ => rfl) rfl hv12 dX6_leastSupply_94 (fun τ13 hτ13 => ?_)
            replace hJ := hJ τ13 hτ13
            refine V_iload C dX6_leastSupply_95 4 rfl ?_
            exact V_iret C hr hlocks dX6_leastSupply_97 hJ
          · have hJ := hJf hc11; clear hJt hJf
            refine V_aload_n C dX6_leastSupply_46 0 rfl ?_
            refine V_get (ci := 6) C okM_0 uX6 rfl 0 (Nat.le_of_ble_eq_true rfl) rfl rfl f7 dX6_leastSupply_47 ?_
            refine V_iload_n C dX6_leastSupply_50 2 rfl ?_
            refine V_iload C dX6_leastSupply_51 5 rfl ?_
            obtain ⟨hv14, hJ⟩ := hJ
            refine V_iast C okM_1 0 rfl (fun _ => rfl) rfl hv14 dX6_leastSupply_53 (fun τ15 hτ15 => ?_)
            replace hJ := hJ τ15 hτ15
            refine V_aload_n C dX6_leastSupply_54 0 rfl ?_
            refine V_cVv (st := []) (ci := 6) C okM_0 (M_X6_distributes l D tc ad A  hJ) (cwV 0 C.1.2.2.2.2 gX6_leastSupply_X6_distributes rfl rfl rfl (by decide +kernel) ⟨Nat.le_of_ble_eq_true rfl, Nat.le_of_ble_eq_true rfl⟩) rfl rfl rfl rfl (Nat.le_of_ble_eq_true rfl) dX6_leastSupply_55 (fun τ16 hJ => ?_)
            refine V_aload_n C dX6_leastSupply_58 0 rfl ?_
            refine V_get (ci := 6) C okM_0 uX6 rfl 7 (Nat.le_of_ble_eq_true rfl) rfl rfl f29 dX6_leastSupply_59 ?_
            refine V_iload_n C dX6_leastSupply_62 1 rfl ?_
            obtain ⟨hv17, hJ⟩ := hJ
            refine V_iald C okM_7 0 rfl rfl rfl hv17 dX6_leastSupply_63 ?_
            refine V_aload_n C dX6_leastSupply_64 0 rfl ?_
            refine V_get (ci := 6) C okM_0 uX6 rfl 6 (Nat.le_of_ble_eq_true rfl) rfl rfl f26 dX6_leastSupply_65 ?_
            refine V_iload_n C dX6_leastSupply_68 1 rfl ?_
            obtain ⟨hv18, hJ⟩ := hJ
            refine V_iald C okM_6 0 rfl rfl rfl hv18 dX6_leastSupply_69 ?_
            obtain ⟨hJt, hJf⟩ := hJ
            refine V_icmp_lt C (tgt := 78) dX6_leastSupply_70 rfl (fun hc19 => ?_) (fun hc19 => ?_)
            · have hJ := hJt hc19; clear hJt hJf
              refine V_iload C dX6_leastSupply_78 4 rfl ?_
              refine V_istore (lv' := [(4, .int x4_7), (0, .ref (ad (0, 0, 0))), (1, .int x1), (2, .int x2_4), (3, .int x3_6), (5, .int x5_7)]) C dX6_leastSupply_80 (by decide) rfl ?_
              obtain ⟨x5_20, hx5_20⟩ : ∃ y : Int32, y = x5_7 + 1 := ⟨_, rfl⟩
              replace hJ := hJ x5_20 hx5_20
              refine V_iinc (v := x5_20) (lv' := [(5, .int x5_20), (4, .int x4_7), (0, .ref (ad (0, 0, 0))), (1, .int x1), (2, .int x2_4), (3, .int x3_6)]) C dX6_leastSupply_82 5 rfl (by rw [hx5_20]; exact congrArg _ ci_1) (by decide) rfl ?_
              refine V_goto C (tgt := 33) dX6_leastSupply_85 rfl ?_
              refine V_sub (lv' := [(0, .ref (ad (0, 0, 0))), (1, .int x1), (2, .int x2_4), (3, .int x3_6), (4, .int x4_7), (5, .int x5_20)]) [2, 3, 4, 5, 1, 0] rfl ?_
              exact ih33 x4_7 x5_20 τ16 (Nat.lt_of_lt_of_le hJ.2 (Nat.le_of_lt_succ hμ33)) hJ.1
            · have hJ := hJf hc19; clear hJt hJf
              refine V_iload C dX6_leastSupply_73 5 rfl ?_
              refine V_goto C (tgt := 80) dX6_leastSupply_75 rfl ?_
              refine V_istore (lv' := [(4, .int x5_7), (0, .ref (ad (0, 0, 0))), (1, .int x1), (2, .int x2_4), (3, .int x3_6), (5, .int x5_7)]) C dX6_leastSupply_80 (by decide) rfl ?_
              obtain ⟨x5_21, hx5_21⟩ : ∃ y : Int32, y = x5_7 + 1 := ⟨_, rfl⟩
              replace hJ := hJ x5_21 hx5_21
              refine V_iinc (v := x5_21) (lv' := [(5, .int x5_21), (4, .int x5_7), (0, .ref (ad (0, 0, 0))), (1, .int x1), (2, .int x2_4), (3, .int x3_6)]) C dX6_leastSupply_82 5 rfl (by rw [hx5_21]; exact congrArg _ ci_1) (by decide) rfl ?_
              refine V_goto C (tgt := 33) dX6_leastSupply_85 rfl ?_
              refine V_sub (lv' := [(0, .ref (ad (0, 0, 0))), (1, .int x1), (2, .int x2_4), (3, .int x3_6), (4, .int x5_7), (5, .int x5_21)]) [2, 3, 4, 5, 1, 0] rfl ?_
              exact ih33 x5_7 x5_21 τ16 (Nat.lt_of_lt_of_le hJ.2 (Nat.le_of_lt_succ hμ33)) hJ.1
    exact L33 _ (-105) 0 τ3 (Nat.lt_succ_self _) hI33
  · have hJ := hJf hc2; clear hJt hJf
    refine V_bipush (v := (-101)) C dX6_leastSupply_8 cb_m101 ?_
    exact V_iret C hr hlocks dX6_leastSupply_10 hJ
set_option maxHeartbeats 4000000 in
set_option maxRecDepth 100000 in
theorem M_X6_limit (l : Launch) (D : va_G) (tc : Nat → ClassId) (ad : Oid → Nat) (A : Nat → Prop) (x1 : Int32) {σ : Mem} {Qr : Int32 → Mem → Prop} (hJ : J_X6_limit x1 σ Qr) : Met l yX6_limit wsX6_limit ({ frames := 4, cells := 0, slots := 0, locals := 89 }) (va_Pc [.ref (ad (0, 0, 0)), .int x1] (WdI D vwCl (tysX tc) idsM ad (ceM tc ad) A σ)) (va_Qi (fun (r : Int32) (u : Mem) => Qr r u) (WdO D vwCl idsM ad (ceM tc ad) A) A) 0 0 A := by
  refine V_meti (cc := cX6_limit) (nL := 4) (ret := (some .int)) (own := RX6) rfl (plainFor_of_name (by decide)) rfl rfl (Nat.le_of_ble_eq_true rfl) ?_
  intro p e s m below meth c C hr hlocks
  refine V_sub (lv' := [(0, .ref (ad (0, 0, 0))), (1, .int x1)]) [0, 1] rfl ?_
  have f29 : Cond.fieldLink RX6 29 (TX6 7).1 (TX6 7).2.1 (TX6 7).2.2.1 ∈ wsX6_limit := List.mem_of_getElem? (i := 1) rfl
  have uX6 : ∀ w ∈ u_ws RX6 TX6 12, w ∈ wsX6_limit := by decide +kernel
  have f26 : Cond.fieldLink RX6 26 (TX6 6).1 (TX6 6).2.1 (TX6 6).2.2.1 ∈ wsX6_limit := List.mem_of_getElem? (i := 2) rfl
  have f7 : Cond.fieldLink RX6 7 (TX6 0).1 (TX6 0).2.1 (TX6 0).2.2.1 ∈ wsX6_limit := List.mem_of_getElem? (i := 3) rfl
  have f32 : Cond.fieldLink RX6 32 (TX6 8).1 (TX6 8).2.1 (TX6 8).2.2.1 ∈ wsX6_limit := List.mem_of_getElem? (i := 4) rfl
  have B93 : ∀ (b3 : Int32) (τ : Mem), J_X6_limit_b93 x1  b3 τ Qr → VV p l e (headSpec wsX6_limit ({ frames := 4, cells := 0, slots := 0, locals := 89 })).room s m ([.ref (ad (0, 0, 0)), .int x1] : List Value).toArray below meth c D vwCl idsM ad (ceM tc ad) A (MQ below (va_Qi (fun (r : Int32) (u : Mem) => Qr r u) (WdO D vwCl idsM ad (ceM tc ad) A) A) ([.ref (ad (0, 0, 0)), .int x1] : List Value).toArray s 0 0 A) 4 93 [(0, .ref (ad (0, 0, 0))), (3, .int b3)] [] τ := by
    intro b3 τ hJ
    unfold J_X6_limit_b93 at hJ
    refine V_aload_n C dX6_limit_93 0 rfl ?_
    refine V_get (ci := 6) C okM_0 uX6 rfl 8 (Nat.le_of_ble_eq_true rfl) rfl rfl f32 dX6_limit_94 ?_
    refine V_iload_n C dX6_limit_97 1 rfl ?_
    obtain ⟨hv15, hJ⟩ := hJ
    refine V_iald C okM_8 0 rfl rfl rfl hv15 dX6_limit_98 ?_
    refine V_aload_n C dX6_limit_99 0 rfl ?_
    refine V_get (ci := 6) C okM_0 uX6 rfl 0 (Nat.le_of_ble_eq_true rfl) rfl rfl f7 dX6_limit_100 ?_
    refine V_bipush (v := 50) C dX6_limit_103 cb_50 ?_
    refine V_iload_n C dX6_limit_105 1 rfl ?_
    refine V_iadd C dX6_limit_106 ?_
    obtain ⟨hv16, hJ⟩ := hJ
    refine V_iald C okM_1 0 rfl rfl rfl hv16 dX6_limit_107 ?_
    obtain ⟨hJt, hJf⟩ := hJ
    refine V_icmp_le C (tgt := 115) dX6_limit_108 rfl (fun hc17 => ?_) (fun hc17 => ?_)
    · have hJ := hJt hc17; clear hJt hJf
      refine V_bipush (v := (-105)) C dX6_limit_115 cb_m105 ?_
      exact V_iret C hr hlocks dX6_limit_117 hJ
    · have hJ := hJf hc17; clear hJt hJf
      refine V_iload_n C dX6_limit_111 1 rfl ?_
      refine V_goto C (tgt := 117) dX6_limit_112 rfl ?_
      exact V_iret C hr hlocks dX6_limit_117 hJ
  unfold J_X6_limit at hJ
  refine V_aload_n C dX6_limit_0 0 rfl ?_
  refine V_iload_n C dX6_limit_1 1 rfl ?_
  refine V_cVi (st := []) (ci := 6) C okM_0 (M_X6_isUser l D tc ad A x1 hJ) (cwV 1 C.1.2.2.2.2 gX6_limit_X6_isUser rfl rfl rfl (by decide +kernel) ⟨Nat.le_of_ble_eq_true rfl, Nat.le_of_ble_eq_true rfl⟩) rfl rfl rfl rfl (Nat.le_of_ble_eq_true rfl) dX6_limit_2 (fun r1 τ1 hJ => ?_)
  obtain ⟨hJt, hJf⟩ := hJ
  refine V_if_ne C (tgt := 11) dX6_limit_5 rfl (fun hc2 => ?_) (fun hc2 => ?_)
  · have hJ := hJt hc2; clear hJt hJf
    refine V_aload_n C dX6_limit_11 0 rfl ?_
    refine V_cVv (st := []) (ci := 6) C okM_0 (M_X6_distributes l D tc ad A  hJ) (cwV 0 C.1.2.2.2.2 gX6_limit_X6_distributes rfl rfl rfl (by decide +kernel) ⟨Nat.le_of_ble_eq_true rfl, Nat.le_of_ble_eq_true rfl⟩) rfl rfl rfl rfl (Nat.le_of_ble_eq_true rfl) dX6_limit_12 (fun τ3 hJ => ?_)
    refine V_aload_n C dX6_limit_15 0 rfl ?_
    refine V_get (ci := 6) C okM_0 uX6 rfl 7 (Nat.le_of_ble_eq_true rfl) rfl rfl f29 dX6_limit_16 ?_
    refine V_iload_n C dX6_limit_19 1 rfl ?_
    obtain ⟨hv4, hJ⟩ := hJ
    refine V_iald C okM_7 0 rfl rfl rfl hv4 dX6_limit_20 ?_
    refine V_aload_n C dX6_limit_21 0 rfl ?_
    refine V_get (ci := 6) C okM_0 uX6 rfl 6 (Nat.le_of_ble_eq_true rfl) rfl rfl f26 dX6_limit_22 ?_
    refine V_iload_n C dX6_limit_25 1 rfl ?_
    obtain ⟨hv5, hJ⟩ := hJ
    refine V_iald C okM_6 0 rfl rfl rfl hv5 dX6_limit_26 ?_
    obtain ⟨hJt, hJf⟩ := hJ
    refine V_icmp_lt C (tgt := 33) dX6_limit_27 rfl (fun hc6 => ?_) (fun hc6 => ?_)
    · have hJ := hJt hc6; clear hJt hJf
      refine V_aload_n C dX6_limit_33 0 rfl ?_
      refine V_get (ci := 6) C okM_0 uX6 rfl 7 (Nat.le_of_ble_eq_true rfl) rfl rfl f29 dX6_limit_34 ?_
      refine V_iload_n C dX6_limit_37 1 rfl ?_
      refine V_dup2 C dX6_limit_38 rfl rfl ?_
      obtain ⟨hv7, hJ⟩ := hJ
      refine V_iald C okM_7 0 rfl rfl rfl hv7 dX6_limit_39 ?_
      refine V_iconst (v := 1) C dX6_limit_40 ci_1 ?_
      refine V_iadd C dX6_limit_41 ?_
      obtain ⟨hv8, hJ⟩ := hJ
      refine V_iast C okM_7 0 rfl (fun _ => rfl) rfl hv8 dX6_limit_42 (fun τ9 hτ9 => ?_)
      replace hJ := hJ τ9 hτ9
      refine V_aload_n C dX6_limit_43 0 rfl ?_
      refine V_cVi (st := []) (ci := 6) C okM_0 (M_X6_isPossible l D tc ad A  hJ) (cwV 0 C.1.2.2.2.2 gX6_limit_X6_isPossible rfl rfl rfl (by decide +kernel) ⟨Nat.le_of_ble_eq_true rfl, Nat.le_of_ble_eq_true rfl⟩) rfl rfl rfl rfl (Nat.le_of_ble_eq_true rfl) dX6_limit_44 (fun r10 τ10 hJ => ?_)
      refine V_istore_n (lv' := [(2, .int r10), (0, .ref (ad (0, 0, 0))), (1, .int x1)]) C dX6_limit_47 (by decide) rfl ?_
      refine V_aload_n C dX6_limit_48 1 rfl ?_
      refine V_get (ci := 6) C okM_0 uX6 rfl 0 (Nat.le_of_ble_eq_true rfl) rfl rfl f7 dX6_limit_49 ?_
      refine V_bipush (v := 70) C dX6_limit_52 cb_70 ?_
      refine V_iload_n C dX6_limit_54 2 rfl ?_
      refine V_iadd C dX6_limit_55 ?_
      obtain ⟨hv11, hJ⟩ := hJ
      refine V_iald C okM_1 0 rfl rfl rfl hv11 dX6_limit_56 ?_
      refine V_topi (fun x3_12 hx3_12 => ?_)
      replace hJ := hJ x3_12 hx3_12
      refine V_istore_n (lv' := [(3, .int x3_12), (2, .int r10), (0, .ref (ad (0, 0, 0))), (1, .int x1)]) C dX6_limit_57 (by decide) rfl ?_
      refine V_sub (lv' := [(0, .ref (ad (0, 0, 0))), (3, .int x3_12)]) [2, 0] rfl ?_
      obtain ⟨I58, μ58, hI58, hst58⟩ := hJ
      have L58 : ∀ (n : Nat) (x3_13 : Int32), μ58 x3_13 < n → I58 x3_13 → VV p l e (headSpec wsX6_limit ({ frames := 4, cells := 0, slots := 0, locals := 89 })).room s m ([.ref (ad (0, 0, 0)), .int x1] : List Value).toArray below meth c D vwCl idsM ad (ceM tc ad) A (MQ below (va_Qi (fun (r : Int32) (u : Mem) => Qr r u) (WdO D vwCl idsM ad (ceM tc ad) A) A) ([.ref (ad (0, 0, 0)), .int x1] : List Value).toArray s 0 0 A) 4 58 [(0, .ref (ad (0, 0, 0))), (3, .int x3_13)] [] τ10 := by
        intro n
        induction n with
        | zero => intro x3_13 hμ _; exact absurd hμ (Nat.not_lt_zero _)
        | succ n ihn =>
          intro x3_13 hμ58 hJ
          have ih58 := ihn
          replace hJ := hst58 x3_13 hJ
          refine V_iload_n C dX6_limit_58 1 rfl ?_
          obtain ⟨hJt, hJf⟩ := hJ
          refine V_if_le C (tgt := 93) dX6_limit_59 rfl (fun hc14 => ?_) (fun hc14 => ?_)
          · have hJ := hJt hc14; clear hJt hJf
            exact B93 x3_13 τ10 hJ
          · have hJ := hJf hc14; clear hJt hJf
            refine V_aload_n C dX6_limit_62 0 rfl ?_
            refine V_get (ci := 6) C okM_0 uX6 rfl 8 (Nat.le_of_ble_eq_true rfl) rfl rfl f32 dX6_limit_63 ?_
            refine V_iload_n C dX6_limit_66 1 rfl ?_
            obtain ⟨hv18, hJ⟩ := hJ
            refine V_iald C okM_8 0 rfl rfl rfl hv18 dX6_limit_67 ?_
            refine V_aload_n C dX6_limit_68 0 rfl ?_
            refine V_get (ci := 6) C okM_0 uX6 rfl 0 (Nat.le_of_ble_eq_true rfl) rfl rfl f7 dX6_limit_69 ?_
            refine V_bipush (v := 50) C dX6_limit_72 cb_50 ?_
            refine V_iload_n C dX6_limit_74 1 rfl ?_
            refine V_iadd C dX6_limit_75 ?_
            obtain ⟨hv19, hJ⟩ := hJ
            refine V_iald C okM_1 0 rfl rfl rfl hv19 dX6_limit_76 ?_
            obtain ⟨hJt, hJf⟩ := hJ
            refine V_icmp_gt C (tgt := 93) dX6_limit_77 rfl (fun hc20 => ?_) (fun hc20 => ?_)
            · have hJ := hJt hc20; clear hJt hJf
              exact B93 x3_13 τ10 hJ
            · have hJ := hJf hc20; clear hJt hJf
              refine V_aload_n C dX6_limit_80 0 rfl ?_
              refine V_get (ci := 6) C okM_0 uX6 rfl 0 (Nat.le_of_ble_eq_true rfl) rfl rfl f7 dX6_limit_81 ?_
              refine V_bipush (v := 40) C dX6_limit_84 cb_40 ?_
              refine V_iload_n C dX6_limit_86 1 rfl ?_
              refine V_iadd C dX6_limit_87 ?_
              obtain ⟨hv21, hJ⟩ := hJ
              refine V_iald C okM_1 0 rfl rfl rfl hv21 dX6_limit_88 ?_
              refine V_topi (fun x3_22 hx3_22 => ?_)
              replace hJ := hJ x3_22 hx3_22
              refine V_istore_n (lv' := [(3, .int x3_22), (0, .ref (ad (0, 0, 0)))]) C dX6_limit_89 (by decide) rfl ?_
              refine V_goto C (tgt := 58) dX6_limit_90 rfl ?_
              refine V_sub (lv' := [(0, .ref (ad (0, 0, 0))), (3, .int x3_22)]) [1, 0] rfl ?_
              exact ih58 x3_22 (Nat.lt_of_lt_of_le hJ.2 (Nat.le_of_lt_succ hμ58)) hJ.1
      exact L58 _ x3_12 (Nat.lt_succ_self _) hI58
    · have hJ := hJf hc6; clear hJt hJf
      refine V_bipush (v := (-103)) C dX6_limit_30 cb_m103 ?_
      exact V_iret C hr hlocks dX6_limit_32 hJ
  · have hJ := hJf hc2; clear hJt hJf
    refine V_bipush (v := (-101)) C dX6_limit_8 cb_m101 ?_
    exact V_iret C hr hlocks dX6_limit_10 hJ
set_option maxHeartbeats 4000000 in
set_option maxRecDepth 100000 in
theorem M_X6_loses (l : Launch) (D : va_G) (tc : Nat → ClassId) (ad : Oid → Nat) (A : Nat → Prop) (x1 : Int32) {σ : Mem} {Qr : Int32 → Mem → Prop} (hJ : J_X6_loses x1 σ Qr) : Met l yX6_loses wsX6_loses ({ frames := 4, cells := 0, slots := 0, locals := 89 }) (va_Pc [.ref (ad (0, 0, 0)), .int x1] (WdI D vwCl (tysX tc) idsM ad (ceM tc ad) A σ)) (va_Qi (fun (r : Int32) (u : Mem) => Qr r u) (WdO D vwCl idsM ad (ceM tc ad) A) A) 0 0 A := by
  refine V_meti (cc := cX6_loses) (nL := 2) (ret := (some .int)) (own := RX6) rfl (plainFor_of_name (by decide)) rfl rfl (Nat.le_of_ble_eq_true rfl) ?_
  intro p e s m below meth c C hr hlocks
  refine V_sub (lv' := [(0, .ref (ad (0, 0, 0))), (1, .int x1)]) [0, 1] rfl ?_
  have f32 : Cond.fieldLink RX6 32 (TX6 8).1 (TX6 8).2.1 (TX6 8).2.2.1 ∈ wsX6_loses := List.mem_of_getElem? (i := 1) rfl
  have uX6 : ∀ w ∈ u_ws RX6 TX6 12, w ∈ wsX6_loses := by decide +kernel
  have f35 : Cond.fieldLink RX6 35 (TX6 9).1 (TX6 9).2.1 (TX6 9).2.2.1 ∈ wsX6_loses := List.mem_of_getElem? (i := 2) rfl
  unfold J_X6_loses at hJ
  refine V_aload_n C dX6_loses_0 0 rfl ?_
  refine V_iload_n C dX6_loses_1 1 rfl ?_
  refine V_cVi (st := []) (ci := 6) C okM_0 (M_X6_isDitch l D tc ad A x1 hJ) (cwV 1 C.1.2.2.2.2 gX6_loses_X6_isDitch rfl rfl rfl (by decide +kernel) ⟨Nat.le_of_ble_eq_true rfl, Nat.le_of_ble_eq_true rfl⟩) rfl rfl rfl rfl (Nat.le_of_ble_eq_true rfl) dX6_loses_2 (fun r1 τ1 hJ => ?_)
  obtain ⟨hJt, hJf⟩ := hJ
  refine V_if_ne C (tgt := 11) dX6_loses_5 rfl (fun hc2 => ?_) (fun hc2 => ?_)
  · have hJ := hJt hc2; clear hJt hJf
    refine V_aload_n C dX6_loses_11 0 rfl ?_
    refine V_cVv (st := []) (ci := 6) C okM_0 (M_X6_distributes l D tc ad A  hJ) (cwV 0 C.1.2.2.2.2 gX6_loses_X6_distributes rfl rfl rfl (by decide +kernel) ⟨Nat.le_of_ble_eq_true rfl, Nat.le_of_ble_eq_true rfl⟩) rfl rfl rfl rfl (Nat.le_of_ble_eq_true rfl) dX6_loses_12 (fun τ3 hJ => ?_)
    refine V_aload_n C dX6_loses_15 0 rfl ?_
    refine V_get (ci := 6) C okM_0 uX6 rfl 8 (Nat.le_of_ble_eq_true rfl) rfl rfl f32 dX6_loses_16 ?_
    refine V_iload_n C dX6_loses_19 1 rfl ?_
    obtain ⟨hv4, hJ⟩ := hJ
    refine V_iald C okM_8 0 rfl rfl rfl hv4 dX6_loses_20 ?_
    refine V_aload_n C dX6_loses_21 0 rfl ?_
    refine V_get (ci := 6) C okM_0 uX6 rfl 9 (Nat.le_of_ble_eq_true rfl) rfl rfl f35 dX6_loses_22 ?_
    refine V_iload_n C dX6_loses_25 1 rfl ?_
    obtain ⟨hv5, hJ⟩ := hJ
    refine V_iald C okM_9 0 rfl rfl rfl hv5 dX6_loses_26 ?_
    refine V_isub C dX6_loses_27 ?_
    exact V_iret C hr hlocks dX6_loses_28 hJ
  · have hJ := hJf hc2; clear hJt hJf
    refine V_bipush (v := (-101)) C dX6_loses_8 cb_m101 ?_
    exact V_iret C hr hlocks dX6_loses_10 hJ
set_option maxHeartbeats 4000000 in
set_option maxRecDepth 100000 in
theorem M_X6_missed (l : Launch) (D : va_G) (tc : Nat → ClassId) (ad : Oid → Nat) (A : Nat → Prop) (x1 : Int32) {σ : Mem} {Qr : Int32 → Mem → Prop} (hJ : J_X6_missed x1 σ Qr) : Met l yX6_missed wsX6_missed ({ frames := 2, cells := 0, slots := 0, locals := 43 }) (va_Pc [.ref (ad (0, 0, 0)), .int x1] (WdI D vwCl (tysX tc) idsM ad (ceM tc ad) A σ)) (va_Qi (fun (r : Int32) (u : Mem) => Qr r u) (WdO D vwCl idsM ad (ceM tc ad) A) A) 0 0 A := by
  refine V_meti (cc := cX6_missed) (nL := 2) (ret := (some .int)) (own := RX6) rfl (plainFor_of_name (by decide)) rfl rfl (Nat.le_of_ble_eq_true rfl) ?_
  intro p e s m below meth c C hr hlocks
  refine V_sub (lv' := [(0, .ref (ad (0, 0, 0))), (1, .int x1)]) [0, 1] rfl ?_
  have f7 : Cond.fieldLink RX6 7 (TX6 0).1 (TX6 0).2.1 (TX6 0).2.2.1 ∈ wsX6_missed := List.mem_of_getElem? (i := 1) rfl
  have uX6 : ∀ w ∈ u_ws RX6 TX6 12, w ∈ wsX6_missed := by decide +kernel
  unfold J_X6_missed at hJ
  refine V_aload_n C dX6_missed_0 0 rfl ?_
  refine V_iload_n C dX6_missed_1 1 rfl ?_
  refine V_cVi (st := []) (ci := 6) C okM_0 (M_X6_isUser l D tc ad A x1 hJ) (cwV 1 C.1.2.2.2.2 gX6_missed_X6_isUser rfl rfl rfl (by decide +kernel) ⟨Nat.le_of_ble_eq_true rfl, Nat.le_of_ble_eq_true rfl⟩) rfl rfl rfl rfl (Nat.le_of_ble_eq_true rfl) dX6_missed_2 (fun r1 τ1 hJ => ?_)
  obtain ⟨hJt, hJf⟩ := hJ
  refine V_if_eq C (tgt := 21) dX6_missed_5 rfl (fun hc2 => ?_) (fun hc2 => ?_)
  · have hJ := hJt hc2; clear hJt hJf
    refine V_bipush (v := (-101)) C dX6_missed_21 cb_m101 ?_
    exact V_iret C hr hlocks dX6_missed_23 hJ
  · have hJ := hJf hc2; clear hJt hJf
    refine V_aload_n C dX6_missed_8 0 rfl ?_
    refine V_get (ci := 6) C okM_0 uX6 rfl 0 (Nat.le_of_ble_eq_true rfl) rfl rfl f7 dX6_missed_9 ?_
    refine V_sipush (v := 190) C dX6_missed_12 cs_190 ?_
    refine V_iload_n C dX6_missed_15 1 rfl ?_
    refine V_iadd C dX6_missed_16 ?_
    obtain ⟨hv3, hJ⟩ := hJ
    refine V_iald C okM_1 0 rfl rfl rfl hv3 dX6_missed_17 ?_
    refine V_goto C (tgt := 23) dX6_missed_18 rfl ?_
    exact V_iret C hr hlocks dX6_missed_23 hJ
set_option maxHeartbeats 4000000 in
set_option maxRecDepth 100000 in
theorem M_X6_pond (l : Launch) (D : va_G) (tc : Nat → ClassId) (ad : Oid → Nat) (A : Nat → Prop) (x1 : Int32) {σ : Mem} {Qr : Int32 → Mem → Prop} (hJ : J_X6_pond x1 σ Qr) : Met l yX6_pond wsX6_pond ({ frames := 2, cells := 0, slots := 0, locals := 43 }) (va_Pc [.ref (ad (0, 0, 0)), .int x1] (WdI D vwCl (tysX tc) idsM ad (ceM tc ad) A σ)) (va_Qi (fun (r : Int32) (u : Mem) => Qr r u) (WdO D vwCl idsM ad (ceM tc ad) A) A) 0 0 A := by
  refine V_meti (cc := cX6_pond) (nL := 2) (ret := (some .int)) (own := RX6) rfl (plainFor_of_name (by decide)) rfl rfl (Nat.le_of_ble_eq_true rfl) ?_
  intro p e s m below meth c C hr hlocks
  refine V_sub (lv' := [(0, .ref (ad (0, 0, 0))), (1, .int x1)]) [0, 1] rfl ?_
  have f7 : Cond.fieldLink RX6 7 (TX6 0).1 (TX6 0).2.1 (TX6 0).2.2.1 ∈ wsX6_pond := List.mem_of_getElem? (i := 1) rfl
  have uX6 : ∀ w ∈ u_ws RX6 TX6 12, w ∈ wsX6_pond := by decide +kernel
  unfold J_X6_pond at hJ
  refine V_aload_n C dX6_pond_0 0 rfl ?_
  refine V_iload_n C dX6_pond_1 1 rfl ?_
  refine V_cVi (st := []) (ci := 6) C okM_0 (M_X6_isUser l D tc ad A x1 hJ) (cwV 1 C.1.2.2.2.2 gX6_pond_X6_isUser rfl rfl rfl (by decide +kernel) ⟨Nat.le_of_ble_eq_true rfl, Nat.le_of_ble_eq_true rfl⟩) rfl rfl rfl rfl (Nat.le_of_ble_eq_true rfl) dX6_pond_2 (fun r1 τ1 hJ => ?_)
  obtain ⟨hJt, hJf⟩ := hJ
  refine V_if_eq C (tgt := 21) dX6_pond_5 rfl (fun hc2 => ?_) (fun hc2 => ?_)
  · have hJ := hJt hc2; clear hJt hJf
    refine V_bipush (v := (-101)) C dX6_pond_21 cb_m101 ?_
    exact V_iret C hr hlocks dX6_pond_23 hJ
  · have hJ := hJf hc2; clear hJt hJf
    refine V_aload_n C dX6_pond_8 0 rfl ?_
    refine V_get (ci := 6) C okM_0 uX6 rfl 0 (Nat.le_of_ble_eq_true rfl) rfl rfl f7 dX6_pond_9 ?_
    refine V_sipush (v := 154) C dX6_pond_12 cs_154 ?_
    refine V_iload_n C dX6_pond_15 1 rfl ?_
    refine V_iadd C dX6_pond_16 ?_
    obtain ⟨hv3, hJ⟩ := hJ
    refine V_iald C okM_1 0 rfl rfl rfl hv3 dX6_pond_17 ?_
    refine V_goto C (tgt := 23) dX6_pond_18 rfl ?_
    exact V_iret C hr hlocks dX6_pond_23 hJ
set_option maxHeartbeats 4000000 in
set_option maxRecDepth 100000 in
theorem M_X6_read (l : Launch) (D : va_G) (tc : Nat → ClassId) (ad : Oid → Nat) (A : Nat → Prop) {σ : Mem} {Qr : Int32 → Mem → Prop} (hJ : J_X6_read σ Qr) : Met l yX6_read wsX6_read ({ frames := 5, cells := 0, slots := 0, locals := 114 }) (va_Pc [.ref (ad (0, 0, 0))] (WdI D vwCl (tysX tc) idsM ad (ceM tc ad) A σ)) (va_Qi (fun (r : Int32) (u : Mem) => Qr r u) (WdO D vwCl idsM ad (ceM tc ad) A) A) 0 0 A := by
  refine V_meti (cc := cX6_read) (nL := 2) (ret := (some .int)) (own := RX6) rfl (plainFor_of_name (by decide)) rfl rfl (Nat.le_of_ble_eq_true rfl) ?_
  intro p e s m below meth c C hr hlocks
  refine V_sub (lv' := [(0, .ref (ad (0, 0, 0)))]) [0] rfl ?_
  unfold J_X6_read at hJ
  refine V_aload_n C dX6_read_0 0 rfl ?_
  refine V_cVv (st := []) (ci := 6) C okM_0 (M_X6_keeps l D tc ad A  hJ) (cwV 0 C.1.2.2.2.2 gX6_read_X6_keeps rfl rfl rfl (by decide +kernel) ⟨Nat.le_of_ble_eq_true rfl, Nat.le_of_ble_eq_true rfl⟩) rfl rfl rfl rfl (Nat.le_of_ble_eq_true rfl) dX6_read_1 (fun τ1 hJ => ?_)
  refine V_aload_n C dX6_read_4 0 rfl ?_
  refine V_cVi (st := []) (ci := 6) C okM_0 (M_X6_reads l D tc ad A  hJ) (cwV 0 C.1.2.2.2.2 gX6_read_X6_reads rfl rfl rfl (by decide +kernel) ⟨Nat.le_of_ble_eq_true rfl, Nat.le_of_ble_eq_true rfl⟩) rfl rfl rfl rfl (Nat.le_of_ble_eq_true rfl) dX6_read_5 (fun r2 τ2 hJ => ?_)
  refine V_istore_n (lv' := [(1, .int r2), (0, .ref (ad (0, 0, 0)))]) C dX6_read_8 (by decide) rfl ?_
  refine V_iload_n C dX6_read_9 0 rfl ?_
  obtain ⟨hJt, hJf⟩ := hJ
  refine V_if_ge C (tgt := 20) dX6_read_10 rfl (fun hc3 => ?_) (fun hc3 => ?_)
  · have hJ := hJt hc3; clear hJt hJf
    refine V_iload_n C dX6_read_20 0 rfl ?_
    exact V_iret C hr hlocks dX6_read_21 hJ
  · have hJ := hJf hc3; clear hJt hJf
    refine V_aload_n C dX6_read_13 1 rfl ?_
    refine V_cVv (st := []) (ci := 6) C okM_0 (M_X6_brings l D tc ad A  hJ) (cwV 0 C.1.2.2.2.2 gX6_read_X6_brings rfl rfl rfl (by decide +kernel) ⟨Nat.le_of_ble_eq_true rfl, Nat.le_of_ble_eq_true rfl⟩) rfl rfl rfl rfl (Nat.le_of_ble_eq_true rfl) dX6_read_14 (fun τ4 hJ => ?_)
    refine V_bipush (v := (-103)) C dX6_read_17 cb_m103 ?_
    exact V_iret C hr hlocks dX6_read_19 hJ
set_option maxHeartbeats 4000000 in
set_option maxRecDepth 100000 in
theorem M_X6_restore (l : Launch) (D : va_G) (tc : Nat → ClassId) (ad : Oid → Nat) (A : Nat → Prop) (x1 : Int32) {σ : Mem} {Qr : Int32 → Mem → Prop} (hJ : J_X6_restore x1 σ Qr) : Met l yX6_restore wsX6_restore ({ frames := 1, cells := 0, slots := 0, locals := 22 }) (va_Pc [.ref (ad (0, 0, 0)), .int x1] (WdI D vwCl (tysX tc) idsM ad (ceM tc ad) A σ)) (va_Qi (fun (r : Int32) (u : Mem) => Qr r u) (WdO D vwCl idsM ad (ceM tc ad) A) A) 0 0 A := by
  refine V_meti (cc := cX6_restore) (nL := 3) (ret := (some .int)) (own := RX6) rfl (plainFor_of_name (by decide)) rfl rfl (Nat.le_of_ble_eq_true rfl) ?_
  intro p e s m below meth c C hr hlocks
  refine V_sub (lv' := [(0, .ref (ad (0, 0, 0))), (1, .int x1)]) [0, 1] rfl ?_
  have f19 : Cond.fieldLink RX6 19 (TX6 3).1 (TX6 3).2.1 (TX6 3).2.2.1 ∈ wsX6_restore := List.mem_of_getElem? (i := 1) rfl
  have uX6 : ∀ w ∈ u_ws RX6 TX6 12, w ∈ wsX6_restore := by decide +kernel
  have f7 : Cond.fieldLink RX6 7 (TX6 0).1 (TX6 0).2.1 (TX6 0).2.2.1 ∈ wsX6_restore := List.mem_of_getElem? (i := 2) rfl
  have f16 : Cond.fieldLink RX6 16 (TX6 2).1 (TX6 2).2.1 (TX6 2).2.2.1 ∈ wsX6_restore := List.mem_of_getElem? (i := 3) rfl
  unfold J_X6_restore at hJ
  refine V_iload_n C dX6_restore_0 1 rfl ?_
  refine V_iconst (v := 0) C dX6_restore_1 ci_0 ?_
  refine V_iconst (v := 1) C dX6_restore_2 ci_1 ?_
  refine V_cSi (st := []) C (M_X6_in l D tc ad A x1 0 1 hJ) (va_cwS 3 C.1.2.2.2.2 gX6_restore_X6_in rfl rfl rfl (by decide +kernel) ⟨Nat.le_of_ble_eq_true rfl, Nat.le_of_ble_eq_true rfl⟩) rfl rfl (Nat.le_of_ble_eq_true rfl) dX6_restore_3 (fun r1 τ1 hJ => ?_)
  obtain ⟨hJt, hJf⟩ := hJ
  refine V_if_ne C (tgt := 12) dX6_restore_6 rfl (fun hc2 => ?_) (fun hc2 => ?_)
  · have hJ := hJt hc2; clear hJt hJf
    refine V_aload_n C dX6_restore_12 0 rfl ?_
    refine V_get (ci := 6) C okM_0 uX6 rfl 3 (Nat.le_of_ble_eq_true rfl) rfl rfl f19 dX6_restore_13 ?_
    refine V_iload_n C dX6_restore_16 1 rfl ?_
    obtain ⟨hv3, hJ⟩ := hJ
    refine V_zald C okM_4 1 rfl rfl rfl hv3 dX6_restore_17 ?_
    obtain ⟨hJt, hJf⟩ := hJ
    refine V_if_ne C (tgt := 24) dX6_restore_18 rfl (fun hc4 => ?_) (fun hc4 => ?_)
    · have hJ := hJt hc4; clear hJt hJf
      refine V_iconst (v := 0) C dX6_restore_24 ci_0 ?_
      refine V_istore_n (lv' := [(2, .int 0), (0, .ref (ad (0, 0, 0))), (1, .int x1)]) C dX6_restore_25 (by decide) rfl ?_
      refine V_sub (lv' := [(0, .ref (ad (0, 0, 0))), (1, .int x1), (2, .int 0)]) [1, 2, 0] rfl ?_
      obtain ⟨I26, μ26, hI26, hst26⟩ := hJ
      have L26 : ∀ (n : Nat) (x2_5 : Int32) (τ5 : Mem), μ26 x2_5 τ5 < n → I26 x2_5 τ5 → VV p l e (headSpec wsX6_restore ({ frames := 1, cells := 0, slots := 0, locals := 22 })).room s m ([.ref (ad (0, 0, 0)), .int x1] : List Value).toArray below meth c D vwCl idsM ad (ceM tc ad) A (MQ below (va_Qi (fun (r : Int32) (u : Mem) => Qr r u) (WdO D vwCl idsM ad (ceM tc ad) A) A) ([.ref (ad (0, 0, 0)), .int x1] : List Value).toArray s 0 0 A) 3 26 [(0, .ref (ad (0, 0, 0))), (1, .int x1), (2, .int x2_5)] [] τ5 := by
        intro n
        induction n with
        | zero => intro x2_5 τ5 hμ _; exact absurd hμ (Nat.not_lt_zero _)
        | succ n ihn =>
          intro x2_5 τ5 hμ26 hJ
          have ih26 := ihn
          replace hJ := hst26 x2_5 τ5 hJ
          refine V_iload_n C dX6_restore_26 2 rfl ?_
          refine V_sipush (v := 214) C dX6_restore_27 cs_214 ?_
          obtain ⟨hJt, hJf⟩ := hJ
          refine V_icmp_ge C (tgt := 57) dX6_restore_30 rfl (fun hc6 => ?_) (fun hc6 => ?_)
          · have hJ := hJt hc6; clear hJt hJf
            refine V_aload_n C dX6_restore_57 0 rfl ?_
            refine V_get (ci := 6) C okM_0 uX6 rfl 0 (Nat.le_of_ble_eq_true rfl) rfl rfl f7 dX6_restore_58 ?_
            refine V_iconst (v := 0) C dX6_restore_61 ci_0 ?_
            refine V_iald C okM_1 0 rfl rfl ix_0 vpc_0_214 dX6_restore_62 ?_
            exact V_iret C hr hlocks dX6_restore_63 hJ
          · have hJ := hJf hc6; clear hJt hJf
            refine V_aload_n C dX6_restore_33 0 rfl ?_
            refine V_get (ci := 6) C okM_0 uX6 rfl 0 (Nat.le_of_ble_eq_true rfl) rfl rfl f7 dX6_restore_34 ?_
            refine V_iload_n C dX6_restore_37 2 rfl ?_
            refine V_aload_n C dX6_restore_38 0 rfl ?_
            refine V_get (ci := 6) C okM_0 uX6 rfl 2 (Nat.le_of_ble_eq_true rfl) rfl rfl f16 dX6_restore_39 ?_
            refine V_sipush (v := 214) C dX6_restore_42 cs_214 ?_
            refine V_iload_n C dX6_restore_45 1 rfl ?_
            refine V_imul C dX6_restore_46 ?_
            refine V_iload_n C dX6_restore_47 2 rfl ?_
            refine V_iadd C dX6_restore_48 ?_
            obtain ⟨hv7, hJ⟩ := hJ
            refine V_iald C okM_3 0 rfl rfl rfl hv7 dX6_restore_49 ?_
            obtain ⟨hv8, hJ⟩ := hJ
            refine V_iast C okM_1 0 rfl (fun _ => rfl) rfl hv8 dX6_restore_50 (fun τ9 hτ9 => ?_)
            replace hJ := hJ τ9 hτ9
            obtain ⟨x2_10, hx2_10⟩ : ∃ y : Int32, y = x2_5 + 1 := ⟨_, rfl⟩
            replace hJ := hJ x2_10 hx2_10
            refine V_iinc (v := x2_10) (lv' := [(2, .int x2_10), (0, .ref (ad (0, 0, 0))), (1, .int x1)]) C dX6_restore_51 2 rfl (by rw [hx2_10]; exact congrArg _ ci_1) (by decide) rfl ?_
            refine V_goto C (tgt := 26) dX6_restore_54 rfl ?_
            refine V_sub (lv' := [(0, .ref (ad (0, 0, 0))), (1, .int x1), (2, .int x2_10)]) [1, 2, 0] rfl ?_
            exact ih26 x2_10 τ9 (Nat.lt_of_lt_of_le hJ.2 (Nat.le_of_lt_succ hμ26)) hJ.1
      exact L26 _ 0 τ1 (Nat.lt_succ_self _) hI26
    · have hJ := hJf hc4; clear hJt hJf
      refine V_bipush (v := (-103)) C dX6_restore_21 cb_m103 ?_
      exact V_iret C hr hlocks dX6_restore_23 hJ
  · have hJ := hJf hc2; clear hJt hJf
    refine V_bipush (v := (-101)) C dX6_restore_9 cb_m101 ?_
    exact V_iret C hr hlocks dX6_restore_11 hJ
set_option maxHeartbeats 4000000 in
set_option maxRecDepth 100000 in
theorem M_X6_save (l : Launch) (D : va_G) (tc : Nat → ClassId) (ad : Oid → Nat) (A : Nat → Prop) (x1 : Int32) {σ : Mem} {Qr : Int32 → Mem → Prop} (hJ : J_X6_save x1 σ Qr) : Met l yX6_save wsX6_save ({ frames := 1, cells := 0, slots := 0, locals := 22 }) (va_Pc [.ref (ad (0, 0, 0)), .int x1] (WdI D vwCl (tysX tc) idsM ad (ceM tc ad) A σ)) (va_Qi (fun (r : Int32) (u : Mem) => Qr r u) (WdO D vwCl idsM ad (ceM tc ad) A) A) 0 0 A := by
  refine V_meti (cc := cX6_save) (nL := 3) (ret := (some .int)) (own := RX6) rfl (plainFor_of_name (by decide)) rfl rfl (Nat.le_of_ble_eq_true rfl) ?_
  intro p e s m below meth c C hr hlocks
  refine V_sub (lv' := [(0, .ref (ad (0, 0, 0))), (1, .int x1)]) [0, 1] rfl ?_
  have f19 : Cond.fieldLink RX6 19 (TX6 3).1 (TX6 3).2.1 (TX6 3).2.2.1 ∈ wsX6_save := List.mem_of_getElem? (i := 3) rfl
  have uX6 : ∀ w ∈ u_ws RX6 TX6 12, w ∈ wsX6_save := by decide +kernel
  have f7 : Cond.fieldLink RX6 7 (TX6 0).1 (TX6 0).2.1 (TX6 0).2.2.1 ∈ wsX6_save := List.mem_of_getElem? (i := 2) rfl
  have f16 : Cond.fieldLink RX6 16 (TX6 2).1 (TX6 2).2.1 (TX6 2).2.2.1 ∈ wsX6_save := List.mem_of_getElem? (i := 1) rfl
  unfold J_X6_save at hJ
  refine V_iload_n C dX6_save_0 1 rfl ?_
  refine V_iconst (v := 0) C dX6_save_1 ci_0 ?_
  refine V_iconst (v := 1) C dX6_save_2 ci_1 ?_
  refine V_cSi (st := []) C (M_X6_in l D tc ad A x1 0 1 hJ) (va_cwS 3 C.1.2.2.2.2 gX6_save_X6_in rfl rfl rfl (by decide +kernel) ⟨Nat.le_of_ble_eq_true rfl, Nat.le_of_ble_eq_true rfl⟩) rfl rfl (Nat.le_of_ble_eq_true rfl) dX6_save_3 (fun r1 τ1 hJ => ?_)
  obtain ⟨hJt, hJf⟩ := hJ
  refine V_if_ne C (tgt := 12) dX6_save_6 rfl (fun hc2 => ?_) (fun hc2 => ?_)
  · have hJ := hJt hc2; clear hJt hJf
    refine V_iconst (v := 0) C dX6_save_12 ci_0 ?_
    refine V_istore_n (lv' := [(2, .int 0), (0, .ref (ad (0, 0, 0))), (1, .int x1)]) C dX6_save_13 (by decide) rfl ?_
    refine V_sub (lv' := [(0, .ref (ad (0, 0, 0))), (1, .int x1), (2, .int 0)]) [1, 2, 0] rfl ?_
    obtain ⟨I14, μ14, hI14, hst14⟩ := hJ
    have L14 : ∀ (n : Nat) (x2_3 : Int32) (τ3 : Mem), μ14 x2_3 τ3 < n → I14 x2_3 τ3 → VV p l e (headSpec wsX6_save ({ frames := 1, cells := 0, slots := 0, locals := 22 })).room s m ([.ref (ad (0, 0, 0)), .int x1] : List Value).toArray below meth c D vwCl idsM ad (ceM tc ad) A (MQ below (va_Qi (fun (r : Int32) (u : Mem) => Qr r u) (WdO D vwCl idsM ad (ceM tc ad) A) A) ([.ref (ad (0, 0, 0)), .int x1] : List Value).toArray s 0 0 A) 3 14 [(0, .ref (ad (0, 0, 0))), (1, .int x1), (2, .int x2_3)] [] τ3 := by
      intro n
      induction n with
      | zero => intro x2_3 τ3 hμ _; exact absurd hμ (Nat.not_lt_zero _)
      | succ n ihn =>
        intro x2_3 τ3 hμ14 hJ
        have ih14 := ihn
        replace hJ := hst14 x2_3 τ3 hJ
        refine V_iload_n C dX6_save_14 2 rfl ?_
        refine V_sipush (v := 214) C dX6_save_15 cs_214 ?_
        obtain ⟨hJt, hJf⟩ := hJ
        refine V_icmp_ge C (tgt := 45) dX6_save_18 rfl (fun hc4 => ?_) (fun hc4 => ?_)
        · have hJ := hJt hc4; clear hJt hJf
          refine V_aload_n C dX6_save_45 0 rfl ?_
          refine V_get (ci := 6) C okM_0 uX6 rfl 3 (Nat.le_of_ble_eq_true rfl) rfl rfl f19 dX6_save_46 ?_
          refine V_iload_n C dX6_save_49 1 rfl ?_
          refine V_iconst (v := 1) C dX6_save_50 ci_1 ?_
          obtain ⟨hv5, hJ⟩ := hJ
          refine V_zast C okM_4 1 rfl (fun _ => rfl) rfl hv5 dX6_save_51 (fun τ6 hτ6 => ?_)
          replace hJ := hJ τ6 hτ6
          refine V_aload_n C dX6_save_52 0 rfl ?_
          refine V_get (ci := 6) C okM_0 uX6 rfl 0 (Nat.le_of_ble_eq_true rfl) rfl rfl f7 dX6_save_53 ?_
          refine V_iconst (v := 0) C dX6_save_56 ci_0 ?_
          refine V_iald C okM_1 0 rfl rfl ix_0 vpc_0_214 dX6_save_57 ?_
          exact V_iret C hr hlocks dX6_save_58 hJ
        · have hJ := hJf hc4; clear hJt hJf
          refine V_aload_n C dX6_save_21 0 rfl ?_
          refine V_get (ci := 6) C okM_0 uX6 rfl 2 (Nat.le_of_ble_eq_true rfl) rfl rfl f16 dX6_save_22 ?_
          refine V_sipush (v := 214) C dX6_save_25 cs_214 ?_
          refine V_iload_n C dX6_save_28 1 rfl ?_
          refine V_imul C dX6_save_29 ?_
          refine V_iload_n C dX6_save_30 2 rfl ?_
          refine V_iadd C dX6_save_31 ?_
          refine V_aload_n C dX6_save_32 0 rfl ?_
          refine V_get (ci := 6) C okM_0 uX6 rfl 0 (Nat.le_of_ble_eq_true rfl) rfl rfl f7 dX6_save_33 ?_
          refine V_iload_n C dX6_save_36 2 rfl ?_
          obtain ⟨hv7, hJ⟩ := hJ
          refine V_iald C okM_1 0 rfl rfl rfl hv7 dX6_save_37 ?_
          obtain ⟨hv8, hJ⟩ := hJ
          refine V_iast C okM_3 0 rfl (fun _ => rfl) rfl hv8 dX6_save_38 (fun τ9 hτ9 => ?_)
          replace hJ := hJ τ9 hτ9
          obtain ⟨x2_10, hx2_10⟩ : ∃ y : Int32, y = x2_3 + 1 := ⟨_, rfl⟩
          replace hJ := hJ x2_10 hx2_10
          refine V_iinc (v := x2_10) (lv' := [(2, .int x2_10), (0, .ref (ad (0, 0, 0))), (1, .int x1)]) C dX6_save_39 2 rfl (by rw [hx2_10]; exact congrArg _ ci_1) (by decide) rfl ?_
          refine V_goto C (tgt := 14) dX6_save_42 rfl ?_
          refine V_sub (lv' := [(0, .ref (ad (0, 0, 0))), (1, .int x1), (2, .int x2_10)]) [1, 2, 0] rfl ?_
          exact ih14 x2_10 τ9 (Nat.lt_of_lt_of_le hJ.2 (Nat.le_of_lt_succ hμ14)) hJ.1
    exact L14 _ 0 τ1 (Nat.lt_succ_self _) hI14
  · have hJ := hJf hc2; clear hJt hJf
    refine V_bipush (v := (-101)) C dX6_save_9 cb_m101 ?_
    exact V_iret C hr hlocks dX6_save_11 hJ
set_option maxHeartbeats 4000000 in
set_option maxRecDepth 100000 in
theorem M_X6_setDitch (l : Launch) (D : va_G) (tc : Nat → ClassId) (ad : Oid → Nat) (A : Nat → Prop) (x1 : Int32) (x2 : Int32) (x3 : Int32) {σ : Mem} {Qr : Int32 → Mem → Prop} (hJ : J_X6_setDitch x1 x2 x3 σ Qr) : Met l yX6_setDitch wsX6_setDitch ({ frames := 2, cells := 0, slots := 0, locals := 43 }) (va_Pc [.ref (ad (0, 0, 0)), .int x1, .int x2, .int x3] (WdI D vwCl (tysX tc) idsM ad (ceM tc ad) A σ)) (va_Qi (fun (r : Int32) (u : Mem) => Qr r u) (WdO D vwCl idsM ad (ceM tc ad) A) A) 0 0 A := by
  refine V_meti (cc := cX6_setDitch) (nL := 4) (ret := (some .int)) (own := RX6) rfl (plainFor_of_name (by decide)) rfl rfl (Nat.le_of_ble_eq_true rfl) ?_
  intro p e s m below meth c C hr hlocks
  refine V_sub (lv' := [(0, .ref (ad (0, 0, 0))), (1, .int x1), (2, .int x2), (3, .int x3)]) [0, 1, 2, 3] rfl ?_
  have f7 : Cond.fieldLink RX6 7 (TX6 0).1 (TX6 0).2.1 (TX6 0).2.2.1 ∈ wsX6_setDitch := List.mem_of_getElem? (i := 1) rfl
  have uX6 : ∀ w ∈ u_ws RX6 TX6 12, w ∈ wsX6_setDitch := by decide +kernel
  unfold J_X6_setDitch at hJ
  refine V_aload_n C dX6_setDitch_0 0 rfl ?_
  refine V_iload_n C dX6_setDitch_1 1 rfl ?_
  refine V_cVi (st := []) (ci := 6) C okM_0 (M_X6_isDitch l D tc ad A x1 hJ) (cwV 1 C.1.2.2.2.2 gX6_setDitch_X6_isDitch rfl rfl rfl (by decide +kernel) ⟨Nat.le_of_ble_eq_true rfl, Nat.le_of_ble_eq_true rfl⟩) rfl rfl rfl rfl (Nat.le_of_ble_eq_true rfl) dX6_setDitch_2 (fun r1 τ1 hJ => ?_)
  obtain ⟨hJt, hJf⟩ := hJ
  refine V_if_ne C (tgt := 11) dX6_setDitch_5 rfl (fun hc2 => ?_) (fun hc2 => ?_)
  · have hJ := hJt hc2; clear hJt hJf
    refine V_iload_n C dX6_setDitch_11 2 rfl ?_
    refine V_iload_n C dX6_setDitch_12 3 rfl ?_
    refine V_cSi (st := []) C (M_X6_isGate l D tc ad A x2 x3 hJ) (va_cwS 2 C.1.2.2.2.2 gX6_setDitch_X6_isGate rfl rfl rfl (by decide +kernel) ⟨Nat.le_of_ble_eq_true rfl, Nat.le_of_ble_eq_true rfl⟩) rfl rfl (Nat.le_of_ble_eq_true rfl) dX6_setDitch_13 (fun r3 τ3 hJ => ?_)
    obtain ⟨hJt, hJf⟩ := hJ
    refine V_if_ne C (tgt := 22) dX6_setDitch_16 rfl (fun hc4 => ?_) (fun hc4 => ?_)
    · have hJ := hJt hc4; clear hJt hJf
      refine V_aload_n C dX6_setDitch_22 0 rfl ?_
      refine V_get (ci := 6) C okM_0 uX6 rfl 0 (Nat.le_of_ble_eq_true rfl) rfl rfl f7 dX6_setDitch_23 ?_
      refine V_bipush (v := 60) C dX6_setDitch_26 cb_60 ?_
      refine V_iload_n C dX6_setDitch_28 1 rfl ?_
      refine V_iadd C dX6_setDitch_29 ?_
      refine V_iload_n C dX6_setDitch_30 3 rfl ?_
      obtain ⟨hv5, hJ⟩ := hJ
      refine V_iast C okM_1 0 rfl (fun _ => rfl) rfl hv5 dX6_setDitch_31 (fun τ6 hτ6 => ?_)
      replace hJ := hJ τ6 hτ6
      refine V_aload_n C dX6_setDitch_32 0 rfl ?_
      refine V_bipush (v := 50) C dX6_setDitch_33 cb_50 ?_
      refine V_iload_n C dX6_setDitch_35 1 rfl ?_
      refine V_iadd C dX6_setDitch_36 ?_
      refine V_iload_n C dX6_setDitch_37 2 rfl ?_
      refine V_cVi (st := []) (ci := 6) C okM_0 (M_X6_puts l D tc ad A (50 + x1) x2 hJ) (cwV 2 C.1.2.2.2.2 gX6_setDitch_X6_puts rfl rfl rfl (by decide +kernel) ⟨Nat.le_of_ble_eq_true rfl, Nat.le_of_ble_eq_true rfl⟩) rfl rfl rfl rfl (Nat.le_of_ble_eq_true rfl) dX6_setDitch_38 (fun r7 τ7 hJ => ?_)
      exact V_iret C hr hlocks dX6_setDitch_41 hJ
    · have hJ := hJf hc4; clear hJt hJf
      refine V_bipush (v := (-102)) C dX6_setDitch_19 cb_m102 ?_
      exact V_iret C hr hlocks dX6_setDitch_21 hJ
  · have hJ := hJf hc2; clear hJt hJf
    refine V_bipush (v := (-101)) C dX6_setDitch_8 cb_m101 ?_
    exact V_iret C hr hlocks dX6_setDitch_10 hJ
set_option maxHeartbeats 4000000 in
set_option maxRecDepth 100000 in
theorem M_X6_setField (l : Launch) (D : va_G) (tc : Nat → ClassId) (ad : Oid → Nat) (A : Nat → Prop) (x1 : Int32) (x2 : Int32) (x3 : Int32) (x4 : Int32) {σ : Mem} {Qr : Int32 → Mem → Prop} (hJ : J_X6_setField x1 x2 x3 x4 σ Qr) : Met l yX6_setField wsX6_setField ({ frames := 2, cells := 0, slots := 0, locals := 43 }) (va_Pc [.ref (ad (0, 0, 0)), .int x1, .int x2, .int x3, .int x4] (WdI D vwCl (tysX tc) idsM ad (ceM tc ad) A σ)) (va_Qi (fun (r : Int32) (u : Mem) => Qr r u) (WdO D vwCl idsM ad (ceM tc ad) A) A) 0 0 A := by
  refine V_meti (cc := cX6_setField) (nL := 5) (ret := (some .int)) (own := RX6) rfl (plainFor_of_name (by decide)) rfl rfl (Nat.le_of_ble_eq_true rfl) ?_
  intro p e s m below meth c C hr hlocks
  refine V_sub (lv' := [(0, .ref (ad (0, 0, 0))), (1, .int x1), (2, .int x2), (3, .int x3), (4, .int x4)]) [0, 1, 2, 3, 4] rfl ?_
  have f7 : Cond.fieldLink RX6 7 (TX6 0).1 (TX6 0).2.1 (TX6 0).2.2.1 ∈ wsX6_setField := List.mem_of_getElem? (i := 1) rfl
  have uX6 : ∀ w ∈ u_ws RX6 TX6 12, w ∈ wsX6_setField := by decide +kernel
  unfold J_X6_setField at hJ
  refine V_aload_n C dX6_setField_0 0 rfl ?_
  refine V_iload_n C dX6_setField_1 1 rfl ?_
  refine V_cVi (st := []) (ci := 6) C okM_0 (M_X6_isUser l D tc ad A x1 hJ) (cwV 1 C.1.2.2.2.2 gX6_setField_X6_isUser rfl rfl rfl (by decide +kernel) ⟨Nat.le_of_ble_eq_true rfl, Nat.le_of_ble_eq_true rfl⟩) rfl rfl rfl rfl (Nat.le_of_ble_eq_true rfl) dX6_setField_2 (fun r1 τ1 hJ => ?_)
  obtain ⟨hJt, hJf⟩ := hJ
  refine V_if_ne C (tgt := 11) dX6_setField_5 rfl (fun hc2 => ?_) (fun hc2 => ?_)
  · have hJ := hJt hc2; clear hJt hJf
    refine V_iload_n C dX6_setField_11 2 rfl ?_
    refine V_iconst (v := 0) C dX6_setField_12 ci_0 ?_
    refine V_bipush (v := 60) C dX6_setField_13 cb_60 ?_
    refine V_cSi (st := []) C (M_X6_in l D tc ad A x2 0 60 hJ) (va_cwS 3 C.1.2.2.2.2 gX6_setField_X6_in rfl rfl rfl (by decide +kernel) ⟨Nat.le_of_ble_eq_true rfl, Nat.le_of_ble_eq_true rfl⟩) rfl rfl (Nat.le_of_ble_eq_true rfl) dX6_setField_15 (fun r3 τ3 hJ => ?_)
    obtain ⟨hJt, hJf⟩ := hJ
    refine V_if_eq C (tgt := 44) dX6_setField_18 rfl (fun hc4 => ?_) (fun hc4 => ?_)
    · have hJ := hJt hc4; clear hJt hJf
      refine V_bipush (v := (-102)) C dX6_setField_44 cb_m102 ?_
      exact V_iret C hr hlocks dX6_setField_46 hJ
    · have hJ := hJf hc4; clear hJt hJf
      refine V_iload_n C dX6_setField_21 3 rfl ?_
      refine V_iconst (v := 0) C dX6_setField_22 ci_0 ?_
      refine V_bipush (v := 23) C dX6_setField_23 cb_23 ?_
      refine V_cSi (st := []) C (M_X6_in l D tc ad A x3 0 23 hJ) (va_cwS 3 C.1.2.2.2.2 gX6_setField_X6_in rfl rfl rfl (by decide +kernel) ⟨Nat.le_of_ble_eq_true rfl, Nat.le_of_ble_eq_true rfl⟩) rfl rfl (Nat.le_of_ble_eq_true rfl) dX6_setField_25 (fun r5 τ5 hJ => ?_)
      obtain ⟨hJt, hJf⟩ := hJ
      refine V_if_eq C (tgt := 44) dX6_setField_28 rfl (fun hc6 => ?_) (fun hc6 => ?_)
      · have hJ := hJt hc6; clear hJt hJf
        refine V_bipush (v := (-102)) C dX6_setField_44 cb_m102 ?_
        exact V_iret C hr hlocks dX6_setField_46 hJ
      · have hJ := hJf hc6; clear hJt hJf
        refine V_iload C dX6_setField_31 4 rfl ?_
        refine V_iload_n C dX6_setField_33 3 rfl ?_
        refine V_iconst (v := 1) C dX6_setField_34 ci_1 ?_
        refine V_iadd C dX6_setField_35 ?_
        refine V_bipush (v := 24) C dX6_setField_36 cb_24 ?_
        refine V_cSi (st := []) C (M_X6_in l D tc ad A x4 (x3 + 1) 24 hJ) (va_cwS 3 C.1.2.2.2.2 gX6_setField_X6_in rfl rfl rfl (by decide +kernel) ⟨Nat.le_of_ble_eq_true rfl, Nat.le_of_ble_eq_true rfl⟩) rfl rfl (Nat.le_of_ble_eq_true rfl) dX6_setField_38 (fun r7 τ7 hJ => ?_)
        obtain ⟨hJt, hJf⟩ := hJ
        refine V_if_ne C (tgt := 47) dX6_setField_41 rfl (fun hc8 => ?_) (fun hc8 => ?_)
        · have hJ := hJt hc8; clear hJt hJf
          refine V_aload_n C dX6_setField_47 0 rfl ?_
          refine V_get (ci := 6) C okM_0 uX6 rfl 0 (Nat.le_of_ble_eq_true rfl) rfl rfl f7 dX6_setField_48 ?_
          refine V_bipush (v := 118) C dX6_setField_51 cb_118 ?_
          refine V_iload_n C dX6_setField_53 1 rfl ?_
          refine V_iadd C dX6_setField_54 ?_
          refine V_iload_n C dX6_setField_55 3 rfl ?_
          obtain ⟨hv9, hJ⟩ := hJ
          refine V_iast C okM_1 0 rfl (fun _ => rfl) rfl hv9 dX6_setField_56 (fun τ10 hτ10 => ?_)
          replace hJ := hJ τ10 hτ10
          refine V_aload_n C dX6_setField_57 0 rfl ?_
          refine V_get (ci := 6) C okM_0 uX6 rfl 0 (Nat.le_of_ble_eq_true rfl) rfl rfl f7 dX6_setField_58 ?_
          refine V_sipush (v := 130) C dX6_setField_61 cs_130 ?_
          refine V_iload_n C dX6_setField_64 1 rfl ?_
          refine V_iadd C dX6_setField_65 ?_
          refine V_iload C dX6_setField_66 4 rfl ?_
          obtain ⟨hv11, hJ⟩ := hJ
          refine V_iast C okM_1 0 rfl (fun _ => rfl) rfl hv11 dX6_setField_68 (fun τ12 hτ12 => ?_)
          replace hJ := hJ τ12 hτ12
          refine V_aload_n C dX6_setField_69 0 rfl ?_
          refine V_bipush (v := 106) C dX6_setField_70 cb_106 ?_
          refine V_iload_n C dX6_setField_72 1 rfl ?_
          refine V_iadd C dX6_setField_73 ?_
          refine V_iload_n C dX6_setField_74 2 rfl ?_
          refine V_cVi (st := []) (ci := 6) C okM_0 (M_X6_puts l D tc ad A (106 + x1) x2 hJ) (cwV 2 C.1.2.2.2.2 gX6_setField_X6_puts rfl rfl rfl (by decide +kernel) ⟨Nat.le_of_ble_eq_true rfl, Nat.le_of_ble_eq_true rfl⟩) rfl rfl rfl rfl (Nat.le_of_ble_eq_true rfl) dX6_setField_75 (fun r13 τ13 hJ => ?_)
          exact V_iret C hr hlocks dX6_setField_78 hJ
        · have hJ := hJf hc8; clear hJt hJf
          refine V_bipush (v := (-102)) C dX6_setField_44 cb_m102 ?_
          exact V_iret C hr hlocks dX6_setField_46 hJ
  · have hJ := hJf hc2; clear hJt hJf
    refine V_bipush (v := (-101)) C dX6_setField_8 cb_m101 ?_
    exact V_iret C hr hlocks dX6_setField_10 hJ
set_option maxHeartbeats 4000000 in
set_option maxRecDepth 100000 in
theorem M_X6_setFutile (l : Launch) (D : va_G) (tc : Nat → ClassId) (ad : Oid → Nat) (A : Nat → Prop) (x1 : Int32) {σ : Mem} {Qr : Int32 → Mem → Prop} (hJ : J_X6_setFutile x1 σ Qr) : Met l yX6_setFutile wsX6_setFutile ({ frames := 1, cells := 0, slots := 0, locals := 23 }) (va_Pc [.ref (ad (0, 0, 0)), .int x1] (WdI D vwCl (tysX tc) idsM ad (ceM tc ad) A σ)) (va_Qi (fun (r : Int32) (u : Mem) => Qr r u) (WdO D vwCl idsM ad (ceM tc ad) A) A) 0 0 A := by
  refine V_meti (cc := cX6_setFutile) (nL := 2) (ret := (some .int)) (own := RX6) rfl (plainFor_of_name (by decide)) rfl rfl (Nat.le_of_ble_eq_true rfl) ?_
  intro p e s m below meth c C hr hlocks
  refine V_sub (lv' := [(0, .ref (ad (0, 0, 0))), (1, .int x1)]) [0, 1] rfl ?_
  unfold J_X6_setFutile at hJ
  refine V_iload_n C dX6_setFutile_0 1 rfl ?_
  refine V_iconst (v := 0) C dX6_setFutile_1 ci_0 ?_
  refine V_bipush (v := 100) C dX6_setFutile_2 cb_100 ?_
  refine V_cSi (st := []) C (M_X6_in l D tc ad A x1 0 100 hJ) (va_cwS 3 C.1.2.2.2.2 gX6_setFutile_X6_in rfl rfl rfl (by decide +kernel) ⟨Nat.le_of_ble_eq_true rfl, Nat.le_of_ble_eq_true rfl⟩) rfl rfl (Nat.le_of_ble_eq_true rfl) dX6_setFutile_4 (fun r1 τ1 hJ => ?_)
  obtain ⟨hJt, hJf⟩ := hJ
  refine V_if_eq C (tgt := 19) dX6_setFutile_7 rfl (fun hc2 => ?_) (fun hc2 => ?_)
  · have hJ := hJt hc2; clear hJt hJf
    refine V_bipush (v := (-102)) C dX6_setFutile_19 cb_m102 ?_
    exact V_iret C hr hlocks dX6_setFutile_21 hJ
  · have hJ := hJf hc2; clear hJt hJf
    refine V_aload_n C dX6_setFutile_10 0 rfl ?_
    refine V_iconst (v := 4) C dX6_setFutile_11 ci_4 ?_
    refine V_iload_n C dX6_setFutile_12 1 rfl ?_
    refine V_cVi (st := []) (ci := 6) C okM_0 (M_X6_puts l D tc ad A 4 x1 hJ) (cwV 2 C.1.2.2.2.2 gX6_setFutile_X6_puts rfl rfl rfl (by decide +kernel) ⟨Nat.le_of_ble_eq_true rfl, Nat.le_of_ble_eq_true rfl⟩) rfl rfl rfl rfl (Nat.le_of_ble_eq_true rfl) dX6_setFutile_13 (fun r3 τ3 hJ => ?_)
    refine V_goto C (tgt := 21) dX6_setFutile_16 rfl ?_
    exact V_iret C hr hlocks dX6_setFutile_21 hJ
set_option maxHeartbeats 4000000 in
set_option maxRecDepth 100000 in
theorem M_X6_setPond (l : Launch) (D : va_G) (tc : Nat → ClassId) (ad : Oid → Nat) (A : Nat → Prop) (x1 : Int32) (x2 : Int32) (x3 : Int32) {σ : Mem} {Qr : Int32 → Mem → Prop} (hJ : J_X6_setPond x1 x2 x3 σ Qr) : Met l yX6_setPond wsX6_setPond ({ frames := 2, cells := 0, slots := 0, locals := 43 }) (va_Pc [.ref (ad (0, 0, 0)), .int x1, .int x2, .int x3] (WdI D vwCl (tysX tc) idsM ad (ceM tc ad) A σ)) (va_Qi (fun (r : Int32) (u : Mem) => Qr r u) (WdO D vwCl idsM ad (ceM tc ad) A) A) 0 0 A := by
  refine V_meti (cc := cX6_setPond) (nL := 4) (ret := (some .int)) (own := RX6) rfl (plainFor_of_name (by decide)) rfl rfl (Nat.le_of_ble_eq_true rfl) ?_
  intro p e s m below meth c C hr hlocks
  refine V_sub (lv' := [(0, .ref (ad (0, 0, 0))), (1, .int x1), (2, .int x2), (3, .int x3)]) [0, 1, 2, 3] rfl ?_
  have f7 : Cond.fieldLink RX6 7 (TX6 0).1 (TX6 0).2.1 (TX6 0).2.2.1 ∈ wsX6_setPond := List.mem_of_getElem? (i := 1) rfl
  have uX6 : ∀ w ∈ u_ws RX6 TX6 12, w ∈ wsX6_setPond := by decide +kernel
  unfold J_X6_setPond at hJ
  refine V_aload_n C dX6_setPond_0 0 rfl ?_
  refine V_iload_n C dX6_setPond_1 1 rfl ?_
  refine V_cVi (st := []) (ci := 6) C okM_0 (M_X6_isUser l D tc ad A x1 hJ) (cwV 1 C.1.2.2.2.2 gX6_setPond_X6_isUser rfl rfl rfl (by decide +kernel) ⟨Nat.le_of_ble_eq_true rfl, Nat.le_of_ble_eq_true rfl⟩) rfl rfl rfl rfl (Nat.le_of_ble_eq_true rfl) dX6_setPond_2 (fun r1 τ1 hJ => ?_)
  obtain ⟨hJt, hJf⟩ := hJ
  refine V_if_ne C (tgt := 11) dX6_setPond_5 rfl (fun hc2 => ?_) (fun hc2 => ?_)
  · have hJ := hJt hc2; clear hJt hJf
    refine V_iload_n C dX6_setPond_11 2 rfl ?_
    refine V_iconst (v := 0) C dX6_setPond_12 ci_0 ?_
    refine V_sipush (v := 500) C dX6_setPond_13 cs_500 ?_
    refine V_cSi (st := []) C (M_X6_in l D tc ad A x2 0 500 hJ) (va_cwS 3 C.1.2.2.2.2 gX6_setPond_X6_in rfl rfl rfl (by decide +kernel) ⟨Nat.le_of_ble_eq_true rfl, Nat.le_of_ble_eq_true rfl⟩) rfl rfl (Nat.le_of_ble_eq_true rfl) dX6_setPond_16 (fun r3 τ3 hJ => ?_)
    obtain ⟨hJt, hJf⟩ := hJ
    refine V_if_eq C (tgt := 32) dX6_setPond_19 rfl (fun hc4 => ?_) (fun hc4 => ?_)
    · have hJ := hJt hc4; clear hJt hJf
      refine V_bipush (v := (-102)) C dX6_setPond_32 cb_m102 ?_
      exact V_iret C hr hlocks dX6_setPond_34 hJ
    · have hJ := hJf hc4; clear hJt hJf
      refine V_iload_n C dX6_setPond_22 3 rfl ?_
      refine V_iconst (v := 0) C dX6_setPond_23 ci_0 ?_
      refine V_bipush (v := 20) C dX6_setPond_24 cb_20 ?_
      refine V_cSi (st := []) C (M_X6_in l D tc ad A x3 0 20 hJ) (va_cwS 3 C.1.2.2.2.2 gX6_setPond_X6_in rfl rfl rfl (by decide +kernel) ⟨Nat.le_of_ble_eq_true rfl, Nat.le_of_ble_eq_true rfl⟩) rfl rfl (Nat.le_of_ble_eq_true rfl) dX6_setPond_26 (fun r5 τ5 hJ => ?_)
      obtain ⟨hJt, hJf⟩ := hJ
      refine V_if_ne C (tgt := 35) dX6_setPond_29 rfl (fun hc6 => ?_) (fun hc6 => ?_)
      · have hJ := hJt hc6; clear hJt hJf
        refine V_aload_n C dX6_setPond_35 0 rfl ?_
        refine V_get (ci := 6) C okM_0 uX6 rfl 0 (Nat.le_of_ble_eq_true rfl) rfl rfl f7 dX6_setPond_36 ?_
        refine V_sipush (v := 142) C dX6_setPond_39 cs_142 ?_
        refine V_iload_n C dX6_setPond_42 1 rfl ?_
        refine V_iadd C dX6_setPond_43 ?_
        refine V_iload_n C dX6_setPond_44 2 rfl ?_
        obtain ⟨hv7, hJ⟩ := hJ
        refine V_iast C okM_1 0 rfl (fun _ => rfl) rfl hv7 dX6_setPond_45 (fun τ8 hτ8 => ?_)
        replace hJ := hJ τ8 hτ8
        refine V_aload_n C dX6_setPond_46 0 rfl ?_
        refine V_get (ci := 6) C okM_0 uX6 rfl 0 (Nat.le_of_ble_eq_true rfl) rfl rfl f7 dX6_setPond_47 ?_
        refine V_sipush (v := 166) C dX6_setPond_50 cs_166 ?_
        refine V_iload_n C dX6_setPond_53 1 rfl ?_
        refine V_iadd C dX6_setPond_54 ?_
        refine V_iload_n C dX6_setPond_55 3 rfl ?_
        obtain ⟨hv9, hJ⟩ := hJ
        refine V_iast C okM_1 0 rfl (fun _ => rfl) rfl hv9 dX6_setPond_56 (fun τ10 hτ10 => ?_)
        replace hJ := hJ τ10 hτ10
        refine V_aload_n C dX6_setPond_57 0 rfl ?_
        refine V_get (ci := 6) C okM_0 uX6 rfl 0 (Nat.le_of_ble_eq_true rfl) rfl rfl f7 dX6_setPond_58 ?_
        refine V_sipush (v := 154) C dX6_setPond_61 cs_154 ?_
        refine V_iload_n C dX6_setPond_64 1 rfl ?_
        refine V_iadd C dX6_setPond_65 ?_
        refine V_aload_n C dX6_setPond_66 0 rfl ?_
        refine V_get (ci := 6) C okM_0 uX6 rfl 0 (Nat.le_of_ble_eq_true rfl) rfl rfl f7 dX6_setPond_67 ?_
        refine V_sipush (v := 154) C dX6_setPond_70 cs_154 ?_
        refine V_iload_n C dX6_setPond_73 1 rfl ?_
        refine V_iadd C dX6_setPond_74 ?_
        obtain ⟨hv11, hJ⟩ := hJ
        refine V_iald C okM_1 0 rfl rfl rfl hv11 dX6_setPond_75 ?_
        refine V_iload_n C dX6_setPond_76 2 rfl ?_
        refine V_cSi (st := [.int (154 + x1), .ref (ad (1, 0, 0))]) C (M_X6_least l D tc ad A (τ10 (1, 0, 0) ((154 + x1).toNatClampNeg)) x2 hJ) (va_cwS 2 C.1.2.2.2.2 gX6_setPond_X6_least rfl rfl rfl (by decide +kernel) ⟨Nat.le_of_ble_eq_true rfl, Nat.le_of_ble_eq_true rfl⟩) rfl rfl (Nat.le_of_ble_eq_true rfl) dX6_setPond_77 (fun r12 τ12 hJ => ?_)
        obtain ⟨hv13, hJ⟩ := hJ
        refine V_iast C okM_1 0 rfl (fun _ => rfl) rfl hv13 dX6_setPond_80 (fun τ14 hτ14 => ?_)
        replace hJ := hJ τ14 hτ14
        refine V_aload_n C dX6_setPond_81 0 rfl ?_
        refine V_get (ci := 6) C okM_0 uX6 rfl 0 (Nat.le_of_ble_eq_true rfl) rfl rfl f7 dX6_setPond_82 ?_
        refine V_sipush (v := 154) C dX6_setPond_85 cs_154 ?_
        refine V_iload_n C dX6_setPond_88 1 rfl ?_
        refine V_iadd C dX6_setPond_89 ?_
        obtain ⟨hv15, hJ⟩ := hJ
        refine V_iald C okM_1 0 rfl rfl rfl hv15 dX6_setPond_90 ?_
        exact V_iret C hr hlocks dX6_setPond_91 hJ
      · have hJ := hJf hc6; clear hJt hJf
        refine V_bipush (v := (-102)) C dX6_setPond_32 cb_m102 ?_
        exact V_iret C hr hlocks dX6_setPond_34 hJ
  · have hJ := hJf hc2; clear hJt hJf
    refine V_bipush (v := (-101)) C dX6_setPond_8 cb_m101 ?_
    exact V_iret C hr hlocks dX6_setPond_10 hJ
