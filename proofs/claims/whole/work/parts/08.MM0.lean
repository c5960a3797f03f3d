set_option maxHeartbeats 4000000 in
set_option maxRecDepth 100000 in
theorem M_X6_in (l : Launch) (D : va_G) (tc : Nat → ClassId) (ad : Oid → Nat) (A : Nat → Prop) (x0 : Int32) (x1 : Int32) (x2 : Int32) {σ : Mem} {Qr : Int32 → Mem → Prop} (hJ : J_X6_in x0 x1 x2 σ Qr) : Met l yX6_in wsX6_in ({ frames := 0, cells := 0, slots := 0, locals := 0 }) (va_Pc [.int x0, .int x1, .int x2] (WdI D vwCl (tysX tc) idsM ad (ceM tc ad) A σ)) (va_Qi (fun (r : Int32) (u : Mem) => Qr r u) (WdO D vwCl idsM ad (ceM tc ad) A) A) 0 0 A := by
  refine V_meti (cc := cX6_in) (nL := 3) (ret := (some .boolean)) (own := RX6) rfl (plainFor_of_name (by decide)) rfl rfl (Nat.le_of_ble_eq_true rfl) ?_
  intro p e s m below meth c C hr hlocks
  refine V_sub (lv' := [(0, .int x0), (1, .int x1), (2, .int x2)]) [0, 1, 2] rfl ?_
  unfold J_X6_in at hJ
  refine V_iload_n C dX6_in_0 0 rfl ?_
  refine V_iload_n C dX6_in_1 1 rfl ?_
  obtain ⟨hJt, hJf⟩ := hJ
  refine V_icmp_lt C (tgt := 14) dX6_in_2 rfl (fun hc1 => ?_) (fun hc1 => ?_)
  · have hJ := hJt hc1; clear hJt hJf
    refine V_iconst (v := 0) C dX6_in_14 ci_0 ?_
    exact V_zret C hr hlocks (Or.inl rfl) dX6_in_15 hJ
  · have hJ := hJf hc1; clear hJt hJf
    refine V_iload_n C dX6_in_5 0 rfl ?_
    refine V_iload_n C dX6_in_6 2 rfl ?_
    obtain ⟨hJt, hJf⟩ := hJ
    refine V_icmp_gt C (tgt := 14) dX6_in_7 rfl (fun hc2 => ?_) (fun hc2 => ?_)
    · have hJ := hJt hc2; clear hJt hJf
      refine V_iconst (v := 0) C dX6_in_14 ci_0 ?_
      exact V_zret C hr hlocks (Or.inl rfl) dX6_in_15 hJ
    · have hJ := hJf hc2; clear hJt hJf
      refine V_iconst (v := 1) C dX6_in_10 ci_1 ?_
      refine V_goto C (tgt := 15) dX6_in_11 rfl ?_
      exact V_zret C hr hlocks (Or.inr rfl) dX6_in_15 hJ
set_option maxHeartbeats 4000000 in
set_option maxRecDepth 100000 in
theorem M_X6_account (l : Launch) (D : va_G) (tc : Nat → ClassId) (ad : Oid → Nat) (A : Nat → Prop) (x1 : Int32) {σ : Mem} {Qr : Int32 → Mem → Prop} (hJ : J_X6_account x1 σ Qr) : Met l yX6_account wsX6_account ({ frames := 1, cells := 0, slots := 0, locals := 22 }) (va_Pc [.ref (ad (0, 0, 0)), .int x1] (WdI D vwCl (tysX tc) idsM ad (ceM tc ad) A σ)) (va_Qi (fun (r : Int32) (u : Mem) => Qr r u) (WdO D vwCl idsM ad (ceM tc ad) A) A) 0 0 A := by
  refine V_meti (cc := cX6_account) (nL := 2) (ret := (some .int)) (own := RX6) rfl (plainFor_of_name (by decide)) rfl rfl (Nat.le_of_ble_eq_true rfl) ?_
  intro p e s m below meth c C hr hlocks
  refine V_sub (lv' := [(0, .ref (ad (0, 0, 0))), (1, .int x1)]) [0, 1] rfl ?_
  have f7 : Cond.fieldLink RX6 7 (TX6 0).1 (TX6 0).2.1 (TX6 0).2.2.1 ∈ wsX6_account := List.mem_of_getElem? (i := 1) rfl
  have uX6 : ∀ w ∈ u_ws RX6 TX6 12, w ∈ wsX6_account := by decide +kernel
  unfold J_X6_account at hJ
  refine V_iload_n C dX6_account_0 1 rfl ?_
  refine V_iconst (v := 0) C dX6_account_1 ci_0 ?_
  refine V_bipush (v := 6) C dX6_account_2 cb_6 ?_
  refine V_cSi (st := []) C (M_X6_in l D tc ad A x1 0 6 hJ) (va_cwS 3 C.1.2.2.2.2 gX6_account_X6_in rfl rfl rfl (by decide +kernel) ⟨Nat.le_of_ble_eq_true rfl, Nat.le_of_ble_eq_true rfl⟩) rfl rfl (Nat.le_of_ble_eq_true rfl) dX6_account_4 (fun r1 τ1 hJ => ?_)
  obtain ⟨hJt, hJf⟩ := hJ
  refine V_if_eq C (tgt := 21) dX6_account_7 rfl (fun hc2 => ?_) (fun hc2 => ?_)
  · have hJ := hJt hc2; clear hJt hJf
    refine V_bipush (v := (-102)) C dX6_account_21 cb_m102 ?_
    exact V_iret C hr hlocks dX6_account_23 hJ
  · have hJ := hJf hc2; clear hJt hJf
    refine V_aload_n C dX6_account_10 0 rfl ?_
    refine V_get (ci := 6) C okM_0 uX6 rfl 0 (Nat.le_of_ble_eq_true rfl) rfl rfl f7 dX6_account_11 ?_
    refine V_iconst (v := 5) C dX6_account_14 ci_5 ?_
    refine V_iload_n C dX6_account_15 1 rfl ?_
    refine V_iadd C dX6_account_16 ?_
    obtain ⟨hv3, hJ⟩ := hJ
    refine V_iald C okM_1 0 rfl rfl rfl hv3 dX6_account_17 ?_
    refine V_goto C (tgt := 23) dX6_account_18 rfl ?_
    exact V_iret C hr hlocks dX6_account_23 hJ
set_option maxHeartbeats 4000000 in
set_option maxRecDepth 100000 in
theorem M_X6_isDitch (l : Launch) (D : va_G) (tc : Nat → ClassId) (ad : Oid → Nat) (A : Nat → Prop) (x1 : Int32) {σ : Mem} {Qr : Int32 → Mem → Prop} (hJ : J_X6_isDitch x1 σ Qr) : Met l yX6_isDitch wsX6_isDitch ({ frames := 1, cells := 0, slots := 0, locals := 22 }) (va_Pc [.ref (ad (0, 0, 0)), .int x1] (WdI D vwCl (tysX tc) idsM ad (ceM tc ad) A σ)) (va_Qi (fun (r : Int32) (u : Mem) => Qr r u) (WdO D vwCl idsM ad (ceM tc ad) A) A) 0 0 A := by
  refine V_meti (cc := cX6_isDitch) (nL := 2) (ret := (some .boolean)) (own := RX6) rfl (plainFor_of_name (by decide)) rfl rfl (Nat.le_of_ble_eq_true rfl) ?_
  intro p e s m below meth c C hr hlocks
  refine V_sub (lv' := [(0, .ref (ad (0, 0, 0))), (1, .int x1)]) [0, 1] rfl ?_
  have f7 : Cond.fieldLink RX6 7 (TX6 0).1 (TX6 0).2.1 (TX6 0).2.2.1 ∈ wsX6_isDitch := List.mem_of_getElem? (i := 1) rfl
  have uX6 : ∀ w ∈ u_ws RX6 TX6 12, w ∈ wsX6_isDitch := by decide +kernel
  unfold J_X6_isDitch at hJ
  refine V_iload_n C dX6_isDitch_0 1 rfl ?_
  refine V_iconst (v := 0) C dX6_isDitch_1 ci_0 ?_
  refine V_aload_n C dX6_isDitch_2 0 rfl ?_
  refine V_get (ci := 6) C okM_0 uX6 rfl 0 (Nat.le_of_ble_eq_true rfl) rfl rfl f7 dX6_isDitch_3 ?_
  refine V_iconst (v := 1) C dX6_isDitch_6 ci_1 ?_
  refine V_iald C okM_1 0 rfl rfl ix_1 vpc_1_214 dX6_isDitch_7 ?_
  refine V_iconst (v := 1) C dX6_isDitch_8 ci_1 ?_
  refine V_isub C dX6_isDitch_9 ?_
  refine V_cSi (st := []) C (M_X6_in l D tc ad A x1 0 ((σ (1, 0, 0) 1) - 1) hJ) (va_cwS 3 C.1.2.2.2.2 gX6_isDitch_X6_in rfl rfl rfl (by decide +kernel) ⟨Nat.le_of_ble_eq_true rfl, Nat.le_of_ble_eq_true rfl⟩) rfl rfl (Nat.le_of_ble_eq_true rfl) dX6_isDitch_10 (fun r1 τ1 hJ => ?_)
  obtain ⟨hb2, hJ⟩ := hJ
  exact V_zret C hr hlocks hb2 dX6_isDitch_13 hJ
set_option maxHeartbeats 4000000 in
set_option maxRecDepth 100000 in
theorem M_X6_isGate (l : Launch) (D : va_G) (tc : Nat → ClassId) (ad : Oid → Nat) (A : Nat → Prop) (x0 : Int32) (x1 : Int32) {σ : Mem} {Qr : Int32 → Mem → Prop} (hJ : J_X6_isGate x0 x1 σ Qr) : Met l yX6_isGate wsX6_isGate ({ frames := 1, cells := 0, slots := 0, locals := 22 }) (va_Pc [.int x0, .int x1] (WdI D vwCl (tysX tc) idsM ad (ceM tc ad) A σ)) (va_Qi (fun (r : Int32) (u : Mem) => Qr r u) (WdO D vwCl idsM ad (ceM tc ad) A) A) 0 0 A := by
  refine V_meti (cc := cX6_isGate) (nL := 2) (ret := (some .boolean)) (own := RX6) rfl (plainFor_of_name (by decide)) rfl rfl (Nat.le_of_ble_eq_true rfl) ?_
  intro p e s m below meth c C hr hlocks
  refine V_sub (lv' := [(0, .int x0), (1, .int x1)]) [0, 1] rfl ?_
  unfold J_X6_isGate at hJ
  refine V_iload_n C dX6_isGate_0 0 rfl ?_
  refine V_iconst (v := 1) C dX6_isGate_1 ci_1 ?_
  refine V_sipush (v := 200) C dX6_isGate_2 cs_200 ?_
  refine V_cSi (st := []) C (M_X6_in l D tc ad A x0 1 200 hJ) (va_cwS 3 C.1.2.2.2.2 gX6_isGate_X6_in rfl rfl rfl (by decide +kernel) ⟨Nat.le_of_ble_eq_true rfl, Nat.le_of_ble_eq_true rfl⟩) rfl rfl (Nat.le_of_ble_eq_true rfl) dX6_isGate_5 (fun r1 τ1 hJ => ?_)
  obtain ⟨hJt, hJf⟩ := hJ
  refine V_if_eq C (tgt := 25) dX6_isGate_8 rfl (fun hc2 => ?_) (fun hc2 => ?_)
  · have hJ := hJt hc2; clear hJt hJf
    refine V_iconst (v := 0) C dX6_isGate_25 ci_0 ?_
    exact V_zret C hr hlocks (Or.inl rfl) dX6_isGate_26 hJ
  · have hJ := hJf hc2; clear hJt hJf
    refine V_iload_n C dX6_isGate_11 1 rfl ?_
    refine V_iconst (v := 0) C dX6_isGate_12 ci_0 ?_
    refine V_bipush (v := 50) C dX6_isGate_13 cb_50 ?_
    refine V_cSi (st := []) C (M_X6_in l D tc ad A x1 0 50 hJ) (va_cwS 3 C.1.2.2.2.2 gX6_isGate_X6_in rfl rfl rfl (by decide +kernel) ⟨Nat.le_of_ble_eq_true rfl, Nat.le_of_ble_eq_true rfl⟩) rfl rfl (Nat.le_of_ble_eq_true rfl) dX6_isGate_15 (fun r3 τ3 hJ => ?_)
    obtain ⟨hJt, hJf⟩ := hJ
    refine V_if_eq C (tgt := 25) dX6_isGate_18 rfl (fun hc4 => ?_) (fun hc4 => ?_)
    · have hJ := hJt hc4; clear hJt hJf
      refine V_iconst (v := 0) C dX6_isGate_25 ci_0 ?_
      exact V_zret C hr hlocks (Or.inl rfl) dX6_isGate_26 hJ
    · have hJ := hJf hc4; clear hJt hJf
      refine V_iconst (v := 1) C dX6_isGate_21 ci_1 ?_
      refine V_goto C (tgt := 26) dX6_isGate_22 rfl ?_
      exact V_zret C hr hlocks (Or.inr rfl) dX6_isGate_26 hJ
set_option maxHeartbeats 4000000 in
set_option maxRecDepth 100000 in
theorem M_X6_addsDitch (l : Launch) (D : va_G) (tc : Nat → ClassId) (ad : Oid → Nat) (A : Nat → Prop) (x1 : Int32) (x2 : Int32) (x3 : Int32) {σ : Mem} {Qr : Int32 → Mem → Prop} (hJ : J_X6_addsDitch x1 x2 x3 σ Qr) : Met l yX6_addsDitch wsX6_addsDitch ({ frames := 0, cells := 0, slots := 0, locals := 0 }) (va_Pc [.ref (ad (0, 0, 0)), .int x1, .int x2, .int x3] (WdI D vwCl (tysX tc) idsM ad (ceM tc ad) A σ)) (va_Qi (fun (r : Int32) (u : Mem) => Qr r u) (WdO D vwCl idsM ad (ceM tc ad) A) A) 0 0 A := by
  refine V_meti (cc := cX6_addsDitch) (nL := 5) (ret := (some .int)) (own := RX6) rfl (plainFor_of_name (by decide)) rfl rfl (Nat.le_of_ble_eq_true rfl) ?_
  intro p e s m below meth c C hr hlocks
  refine V_sub (lv' := [(0, .ref (ad (0, 0, 0))), (1, .int x1), (2, .int x2), (3, .int x3)]) [0, 1, 2, 3] rfl ?_
  have f7 : Cond.fieldLink RX6 7 (TX6 0).1 (TX6 0).2.1 (TX6 0).2.2.1 ∈ wsX6_addsDitch := List.mem_of_getElem? (i := 1) rfl
  have uX6 : ∀ w ∈ u_ws RX6 TX6 12, w ∈ wsX6_addsDitch := by decide +kernel
  unfold J_X6_addsDitch at hJ
  refine V_aload_n C dX6_addsDitch_0 0 rfl ?_
  refine V_get (ci := 6) C okM_0 uX6 rfl 0 (Nat.le_of_ble_eq_true rfl) rfl rfl f7 dX6_addsDitch_1 ?_
  refine V_iconst (v := 1) C dX6_addsDitch_4 ci_1 ?_
  refine V_iald C okM_1 0 rfl rfl ix_1 vpc_1_214 dX6_addsDitch_5 ?_
  refine V_topi (fun x4_1 hx4_1 => ?_)
  replace hJ := hJ x4_1 hx4_1
  refine V_istore (lv' := [(4, .int x4_1), (0, .ref (ad (0, 0, 0))), (1, .int x1), (2, .int x2), (3, .int x3)]) C dX6_addsDitch_6 (by decide) rfl ?_
  refine V_aload_n C dX6_addsDitch_8 1 rfl ?_
  refine V_get (ci := 6) C okM_0 uX6 rfl 0 (Nat.le_of_ble_eq_true rfl) rfl rfl f7 dX6_addsDitch_9 ?_
  refine V_bipush (v := 40) C dX6_addsDitch_12 cb_40 ?_
  refine V_iload C dX6_addsDitch_14 0 rfl ?_
  refine V_iadd C dX6_addsDitch_16 ?_
  refine V_iload_n C dX6_addsDitch_17 2 rfl ?_
  obtain ⟨hv2, hJ⟩ := hJ
  refine V_iast C okM_1 0 rfl (fun _ => rfl) rfl hv2 dX6_addsDitch_18 (fun τ3 hτ3 => ?_)
  replace hJ := hJ τ3 hτ3
  refine V_aload_n C dX6_addsDitch_19 1 rfl ?_
  refine V_get (ci := 6) C okM_0 uX6 rfl 0 (Nat.le_of_ble_eq_true rfl) rfl rfl f7 dX6_addsDitch_20 ?_
  refine V_bipush (v := 50) C dX6_addsDitch_23 cb_50 ?_
  refine V_iload C dX6_addsDitch_25 0 rfl ?_
  refine V_iadd C dX6_addsDitch_27 ?_
  refine V_iload_n C dX6_addsDitch_28 3 rfl ?_
  obtain ⟨hv4, hJ⟩ := hJ
  refine V_iast C okM_1 0 rfl (fun _ => rfl) rfl hv4 dX6_addsDitch_29 (fun τ5 hτ5 => ?_)
  replace hJ := hJ τ5 hτ5
  refine V_aload_n C dX6_addsDitch_30 1 rfl ?_
  refine V_get (ci := 6) C okM_0 uX6 rfl 0 (Nat.le_of_ble_eq_true rfl) rfl rfl f7 dX6_addsDitch_31 ?_
  refine V_bipush (v := 60) C dX6_addsDitch_34 cb_60 ?_
  refine V_iload C dX6_addsDitch_36 0 rfl ?_
  refine V_iadd C dX6_addsDitch_38 ?_
  refine V_iload_n C dX6_addsDitch_39 4 rfl ?_
  obtain ⟨hv6, hJ⟩ := hJ
  refine V_iast C okM_1 0 rfl (fun _ => rfl) rfl hv6 dX6_addsDitch_40 (fun τ7 hτ7 => ?_)
  replace hJ := hJ τ7 hτ7
  refine V_aload_n C dX6_addsDitch_41 1 rfl ?_
  refine V_get (ci := 6) C okM_0 uX6 rfl 0 (Nat.le_of_ble_eq_true rfl) rfl rfl f7 dX6_addsDitch_42 ?_
  refine V_iconst (v := 1) C dX6_addsDitch_45 ci_1 ?_
  refine V_dup2 C dX6_addsDitch_46 rfl rfl ?_
  refine V_iald C okM_1 0 rfl rfl ix_1 vpc_1_214 dX6_addsDitch_47 ?_
  refine V_iconst (v := 1) C dX6_addsDitch_48 ci_1 ?_
  refine V_iadd C dX6_addsDitch_49 ?_
  refine V_iast C okM_1 0 rfl (fun _ => rfl) ix_1 vpc_1_214 dX6_addsDitch_50 (fun τ8 hτ8 => ?_)
  replace hJ := hJ τ8 hτ8
  refine V_iload C dX6_addsDitch_51 0 rfl ?_
  exact V_iret C hr hlocks dX6_addsDitch_53 hJ
set_option maxHeartbeats 4000000 in
set_option maxRecDepth 100000 in
theorem M_X6_addDitch (l : Launch) (D : va_G) (tc : Nat → ClassId) (ad : Oid → Nat) (A : Nat → Prop) (x1 : Int32) (x2 : Int32) (x3 : Int32) {σ : Mem} {Qr : Int32 → Mem → Prop} (hJ : J_X6_addDitch x1 x2 x3 σ Qr) : Met l yX6_addDitch wsX6_addDitch ({ frames := 2, cells := 0, slots := 0, locals := 43 }) (va_Pc [.ref (ad (0, 0, 0)), .int x1, .int x2, .int x3] (WdI D vwCl (tysX tc) idsM ad (ceM tc ad) A σ)) (va_Qi (fun (r : Int32) (u : Mem) => Qr r u) (WdO D vwCl idsM ad (ceM tc ad) A) A) 0 0 A := by
  refine V_meti (cc := cX6_addDitch) (nL := 4) (ret := (some .int)) (own := RX6) rfl (plainFor_of_name (by decide)) rfl rfl (Nat.le_of_ble_eq_true rfl) ?_
  intro p e s m below meth c C hr hlocks
  refine V_sub (lv' := [(0, .ref (ad (0, 0, 0))), (1, .int x1), (2, .int x2), (3, .int x3)]) [0, 1, 2, 3] rfl ?_
  have f7 : Cond.fieldLink RX6 7 (TX6 0).1 (TX6 0).2.1 (TX6 0).2.2.1 ∈ wsX6_addDitch := List.mem_of_getElem? (i := 1) rfl
  have uX6 : ∀ w ∈ u_ws RX6 TX6 12, w ∈ wsX6_addDitch := by decide +kernel
  unfold J_X6_addDitch at hJ
  refine V_aload_n C dX6_addDitch_0 0 rfl ?_
  refine V_iload_n C dX6_addDitch_1 1 rfl ?_
  refine V_cVi (st := []) (ci := 6) C okM_0 (M_X6_isDitch l D tc ad A x1 hJ) (cwV 1 C.1.2.2.2.2 gX6_addDitch_X6_isDitch rfl rfl rfl (by decide +kernel) ⟨Nat.le_of_ble_eq_true rfl, Nat.le_of_ble_eq_true rfl⟩) rfl rfl rfl rfl (Nat.le_of_ble_eq_true rfl) dX6_addDitch_2 (fun r1 τ1 hJ => ?_)
  obtain ⟨hJt, hJf⟩ := hJ
  refine V_if_ne C (tgt := 11) dX6_addDitch_5 rfl (fun hc2 => ?_) (fun hc2 => ?_)
  · have hJ := hJt hc2; clear hJt hJf
    refine V_iload_n C dX6_addDitch_11 2 rfl ?_
    refine V_iload_n C dX6_addDitch_12 3 rfl ?_
    refine V_cSi (st := []) C (M_X6_isGate l D tc ad A x2 x3 hJ) (va_cwS 2 C.1.2.2.2.2 gX6_addDitch_X6_isGate rfl rfl rfl (by decide +kernel) ⟨Nat.le_of_ble_eq_true rfl, Nat.le_of_ble_eq_true rfl⟩) rfl rfl (Nat.le_of_ble_eq_true rfl) dX6_addDitch_13 (fun r3 τ3 hJ => ?_)
    obtain ⟨hJt, hJf⟩ := hJ
    refine V_if_ne C (tgt := 22) dX6_addDitch_16 rfl (fun hc4 => ?_) (fun hc4 => ?_)
    · have hJ := hJt hc4; clear hJt hJf
      refine V_aload_n C dX6_addDitch_22 0 rfl ?_
      refine V_get (ci := 6) C okM_0 uX6 rfl 0 (Nat.le_of_ble_eq_true rfl) rfl rfl f7 dX6_addDitch_23 ?_
      refine V_iconst (v := 1) C dX6_addDitch_26 ci_1 ?_
      refine V_iald C okM_1 0 rfl rfl ix_1 vpc_1_214 dX6_addDitch_27 ?_
      refine V_bipush (v := 10) C dX6_addDitch_28 cb_10 ?_
      obtain ⟨hJt, hJf⟩ := hJ
      refine V_icmp_ne C (tgt := 38) dX6_addDitch_30 rfl (fun hc5 => ?_) (fun hc5 => ?_)
      · have hJ := hJt hc5; clear hJt hJf
        refine V_aload_n C dX6_addDitch_38 0 rfl ?_
        refine V_iload_n C dX6_addDitch_39 1 rfl ?_
        refine V_iload_n C dX6_addDitch_40 2 rfl ?_
        refine V_iload_n C dX6_addDitch_41 3 rfl ?_
        refine V_cVi (st := []) (ci := 6) C okM_0 (M_X6_addsDitch l D tc ad A x1 x2 x3 hJ) (cwV 3 C.1.2.2.2.2 gX6_addDitch_X6_addsDitch rfl rfl rfl (by decide +kernel) ⟨Nat.le_of_ble_eq_true rfl, Nat.le_of_ble_eq_true rfl⟩) rfl rfl rfl rfl (Nat.le_of_ble_eq_true rfl) dX6_addDitch_42 (fun r6 τ6 hJ => ?_)
        exact V_iret C hr hlocks dX6_addDitch_45 hJ
      · have hJ := hJf hc5; clear hJt hJf
        refine V_bipush (v := (-104)) C dX6_addDitch_33 cb_m104 ?_
        refine V_goto C (tgt := 45) dX6_addDitch_35 rfl ?_
        exact V_iret C hr hlocks dX6_addDitch_45 hJ
    · have hJ := hJf hc4; clear hJt hJf
      refine V_bipush (v := (-102)) C dX6_addDitch_19 cb_m102 ?_
      exact V_iret C hr hlocks dX6_addDitch_21 hJ
  · have hJ := hJf hc2; clear hJt hJf
    refine V_bipush (v := (-101)) C dX6_addDitch_8 cb_m101 ?_
    exact V_iret C hr hlocks dX6_addDitch_10 hJ
set_option maxHeartbeats 4000000 in
set_option maxRecDepth 100000 in
theorem M_X6_addsUser (l : Launch) (D : va_G) (tc : Nat → ClassId) (ad : Oid → Nat) (A : Nat → Prop) (x1 : Int32) (x2 : Int32) (x3 : Int32) {σ : Mem} {Qr : Int32 → Mem → Prop} (hJ : J_X6_addsUser x1 x2 x3 σ Qr) : Met l yX6_addsUser wsX6_addsUser ({ frames := 0, cells := 0, slots := 0, locals := 0 }) (va_Pc [.ref (ad (0, 0, 0)), .int x1, .int x2, .int x3] (WdI D vwCl (tysX tc) idsM ad (ceM tc ad) A σ)) (va_Qi (fun (r : Int32) (u : Mem) => Qr r u) (WdO D vwCl idsM ad (ceM tc ad) A) A) 0 0 A := by
  refine V_meti (cc := cX6_addsUser) (nL := 6) (ret := (some .int)) (own := RX6) rfl (plainFor_of_name (by decide)) rfl rfl (Nat.le_of_ble_eq_true rfl) ?_
  intro p e s m below meth c C hr hlocks
  refine V_sub (lv' := [(0, .ref (ad (0, 0, 0))), (1, .int x1), (2, .int x2), (3, .int x3)]) [0, 1, 2, 3] rfl ?_
  have f7 : Cond.fieldLink RX6 7 (TX6 0).1 (TX6 0).2.1 (TX6 0).2.2.1 ∈ wsX6_addsUser := List.mem_of_getElem? (i := 1) rfl
  have uX6 : ∀ w ∈ u_ws RX6 TX6 12, w ∈ wsX6_addsUser := by decide +kernel
  unfold J_X6_addsUser at hJ
  refine V_aload_n C dX6_addsUser_0 0 rfl ?_
  refine V_get (ci := 6) C okM_0 uX6 rfl 0 (Nat.le_of_ble_eq_true rfl) rfl rfl f7 dX6_addsUser_1 ?_
  refine V_iconst (v := 2) C dX6_addsUser_4 ci_2 ?_
  refine V_iald C okM_1 0 rfl rfl ix_2 vpc_2_214 dX6_addsUser_5 ?_
  refine V_topi (fun x4_1 hx4_1 => ?_)
  replace hJ := hJ x4_1 hx4_1
  refine V_istore (lv' := [(4, .int x4_1), (0, .ref (ad (0, 0, 0))), (1, .int x1), (2, .int x2), (3, .int x3)]) C dX6_addsUser_6 (by decide) rfl ?_
  refine V_bipush (v := 70) C dX6_addsUser_8 cb_70 ?_
  refine V_iload C dX6_addsUser_10 0 rfl ?_
  refine V_iadd C dX6_addsUser_12 ?_
  refine V_topi (fun x5_2 hx5_2 => ?_)
  replace hJ := hJ x5_2 hx5_2
  refine V_istore (lv' := [(5, .int x5_2), (4, .int x4_1), (0, .ref (ad (0, 0, 0))), (1, .int x1), (2, .int x2), (3, .int x3)]) C dX6_addsUser_13 (by decide) rfl ?_
  refine V_sub (lv' := [(0, .ref (ad (0, 0, 0))), (1, .int x1), (2, .int x2), (3, .int x3), (4, .int x4_1), (5, .int x5_2)]) [2, 3, 4, 5, 1, 0] rfl ?_
  obtain ⟨I15, μ15, hI15, hst15⟩ := hJ
  have L15 : ∀ (n : Nat) (x5_3 : Int32) (τ3 : Mem), μ15 x5_3 τ3 < n → I15 x5_3 τ3 → VV p l e (headSpec wsX6_addsUser ({ frames := 0, cells := 0, slots := 0, locals := 0 })).room s m ([.ref (ad (0, 0, 0)), .int x1, .int x2, .int x3] : List Value).toArray below meth c D vwCl idsM ad (ceM tc ad) A (MQ below (va_Qi (fun (r : Int32) (u : Mem) => Qr r u) (WdO D vwCl idsM ad (ceM tc ad) A) A) ([.ref (ad (0, 0, 0)), .int x1, .int x2, .int x3] : List Value).toArray s 0 0 A) 6 15 [(0, .ref (ad (0, 0, 0))), (1, .int x1), (2, .int x2), (3, .int x3), (4, .int x4_1), (5, .int x5_3)] [] τ3 := by
    intro n
    induction n with
    | zero => intro x5_3 τ3 hμ _; exact absurd hμ (Nat.not_lt_zero _)
    | succ n ihn =>
      intro x5_3 τ3 hμ15 hJ
      have ih15 := ihn
      replace hJ := hst15 x5_3 τ3 hJ
      refine V_iload C dX6_addsUser_15 5 rfl ?_
      refine V_sipush (v := 214) C dX6_addsUser_17 cs_214 ?_
      obtain ⟨hJt, hJf⟩ := hJ
      refine V_icmp_ge C (tgt := 37) dX6_addsUser_20 rfl (fun hc4 => ?_) (fun hc4 => ?_)
      · have hJ := hJt hc4; clear hJt hJf
        refine V_aload_n C dX6_addsUser_37 0 rfl ?_
        refine V_get (ci := 6) C okM_0 uX6 rfl 0 (Nat.le_of_ble_eq_true rfl) rfl rfl f7 dX6_addsUser_38 ?_
        refine V_bipush (v := 70) C dX6_addsUser_41 cb_70 ?_
        refine V_iload C dX6_addsUser_43 4 rfl ?_
        refine V_iadd C dX6_addsUser_45 ?_
        refine V_iload_n C dX6_addsUser_46 1 rfl ?_
        obtain ⟨hv5, hJ⟩ := hJ
        refine V_iast C okM_1 0 rfl (fun _ => rfl) rfl hv5 dX6_addsUser_47 (fun τ6 hτ6 => ?_)
        replace hJ := hJ τ6 hτ6
        refine V_aload_n C dX6_addsUser_48 0 rfl ?_
        refine V_get (ci := 6) C okM_0 uX6 rfl 0 (Nat.le_of_ble_eq_true rfl) rfl rfl f7 dX6_addsUser_49 ?_
        refine V_bipush (v := 82) C dX6_addsUser_52 cb_82 ?_
        refine V_iload C dX6_addsUser_54 4 rfl ?_
        refine V_iadd C dX6_addsUser_56 ?_
        refine V_iload_n C dX6_addsUser_57 2 rfl ?_
        obtain ⟨hv7, hJ⟩ := hJ
        refine V_iast C okM_1 0 rfl (fun _ => rfl) rfl hv7 dX6_addsUser_58 (fun τ8 hτ8 => ?_)
        replace hJ := hJ τ8 hτ8
        refine V_aload_n C dX6_addsUser_59 0 rfl ?_
        refine V_get (ci := 6) C okM_0 uX6 rfl 0 (Nat.le_of_ble_eq_true rfl) rfl rfl f7 dX6_addsUser_60 ?_
        refine V_bipush (v := 94) C dX6_addsUser_63 cb_94 ?_
        refine V_iload C dX6_addsUser_65 4 rfl ?_
        refine V_iadd C dX6_addsUser_67 ?_
        refine V_iload_n C dX6_addsUser_68 3 rfl ?_
        obtain ⟨hv9, hJ⟩ := hJ
        refine V_iast C okM_1 0 rfl (fun _ => rfl) rfl hv9 dX6_addsUser_69 (fun τ10 hτ10 => ?_)
        replace hJ := hJ τ10 hτ10
        refine V_aload_n C dX6_addsUser_70 0 rfl ?_
        refine V_get (ci := 6) C okM_0 uX6 rfl 0 (Nat.le_of_ble_eq_true rfl) rfl rfl f7 dX6_addsUser_71 ?_
        refine V_iconst (v := 2) C dX6_addsUser_74 ci_2 ?_
        refine V_dup2 C dX6_addsUser_75 rfl rfl ?_
        refine V_iald C okM_1 0 rfl rfl ix_2 vpc_2_214 dX6_addsUser_76 ?_
        refine V_iconst (v := 1) C dX6_addsUser_77 ci_1 ?_
        refine V_iadd C dX6_addsUser_78 ?_
        refine V_iast C okM_1 0 rfl (fun _ => rfl) ix_2 vpc_2_214 dX6_addsUser_79 (fun τ11 hτ11 => ?_)
        replace hJ := hJ τ11 hτ11
        refine V_iload C dX6_addsUser_80 4 rfl ?_
        exact V_iret C hr hlocks dX6_addsUser_82 hJ
      · have hJ := hJf hc4; clear hJt hJf
        refine V_aload_n C dX6_addsUser_23 0 rfl ?_
        refine V_get (ci := 6) C okM_0 uX6 rfl 0 (Nat.le_of_ble_eq_true rfl) rfl rfl f7 dX6_addsUser_24 ?_
        refine V_iload C dX6_addsUser_27 5 rfl ?_
        refine V_iconst (v := 0) C dX6_addsUser_29 ci_0 ?_
        obtain ⟨hv12, hJ⟩ := hJ
        refine V_iast C okM_1 0 rfl (fun _ => rfl) rfl hv12 dX6_addsUser_30 (fun τ13 hτ13 => ?_)
        replace hJ := hJ τ13 hτ13
        obtain ⟨x5_14, hx5_14⟩ : ∃ y : Int32, y = x5_3 + 12 := ⟨_, rfl⟩
        replace hJ := hJ x5_14 hx5_14
        refine V_iinc (v := x5_14) (lv' := [(5, .int x5_14), (0, .ref (ad (0, 0, 0))), (1, .int x1), (2, .int x2), (3, .int x3), (4, .int x4_1)]) C dX6_addsUser_31 5 rfl (by rw [hx5_14]; exact congrArg _ ci_12) (by decide) rfl ?_
        refine V_goto C (tgt := 15) dX6_addsUser_34 rfl ?_
        refine V_sub (lv' := [(0, .ref (ad (0, 0, 0))), (1, .int x1), (2, .int x2), (3, .int x3), (4, .int x4_1), (5, .int x5_14)]) [1, 2, 3, 4, 5, 0] rfl ?_
        exact ih15 x5_14 τ13 (Nat.lt_of_lt_of_le hJ.2 (Nat.le_of_lt_succ hμ15)) hJ.1
  exact L15 _ x5_2 σ (Nat.lt_succ_self _) hI15
set_option maxHeartbeats 4000000 in
set_option maxRecDepth 100000 in
theorem M_X6_addUser (l : Launch) (D : va_G) (tc : Nat → ClassId) (ad : Oid → Nat) (A : Nat → Prop) (x1 : Int32) (x2 : Int32) (x3 : Int32) {σ : Mem} {Qr : Int32 → Mem → Prop} (hJ : J_X6_addUser x1 x2 x3 σ Qr) : Met l yX6_addUser wsX6_addUser ({ frames := 2, cells := 0, slots := 0, locals := 43 }) (va_Pc [.ref (ad (0, 0, 0)), .int x1, .int x2, .int x3] (WdI D vwCl (tysX tc) idsM ad (ceM tc ad) A σ)) (va_Qi (fun (r : Int32) (u : Mem) => Qr r u) (WdO D vwCl idsM ad (ceM tc ad) A) A) 0 0 A := by
  refine V_meti (cc := cX6_addUser) (nL := 4) (ret := (some .int)) (own := RX6) rfl (plainFor_of_name (by decide)) rfl rfl (Nat.le_of_ble_eq_true rfl) ?_
  intro p e s m below meth c C hr hlocks
  refine V_sub (lv' := [(0, .ref (ad (0, 0, 0))), (1, .int x1), (2, .int x2), (3, .int x3)]) [0, 1, 2, 3] rfl ?_
  have f7 : Cond.fieldLink RX6 7 (TX6 0).1 (TX6 0).2.1 (TX6 0).2.2.1 ∈ wsX6_addUser := List.mem_of_getElem? (i := 1) rfl
  have uX6 : ∀ w ∈ u_ws RX6 TX6 12, w ∈ wsX6_addUser := by decide +kernel
  unfold J_X6_addUser at hJ
  refine V_aload_n C dX6_addUser_0 0 rfl ?_
  refine V_iload_n C dX6_addUser_1 1 rfl ?_
  refine V_cVi (st := []) (ci := 6) C okM_0 (M_X6_isDitch l D tc ad A x1 hJ) (cwV 1 C.1.2.2.2.2 gX6_addUser_X6_isDitch rfl rfl rfl (by decide +kernel) ⟨Nat.le_of_ble_eq_true rfl, Nat.le_of_ble_eq_true rfl⟩) rfl rfl rfl rfl (Nat.le_of_ble_eq_true rfl) dX6_addUser_2 (fun r1 τ1 hJ => ?_)
  obtain ⟨hJt, hJf⟩ := hJ
  refine V_if_ne C (tgt := 11) dX6_addUser_5 rfl (fun hc2 => ?_) (fun hc2 => ?_)
  · have hJ := hJt hc2; clear hJt hJf
    refine V_iload_n C dX6_addUser_11 2 rfl ?_
    refine V_sipush (v := 1800) C dX6_addUser_12 cs_1800 ?_
    refine V_sipush (v := 2099) C dX6_addUser_15 cs_2099 ?_
    refine V_cSi (st := []) C (M_X6_in l D tc ad A x2 1800 2099 hJ) (va_cwS 3 C.1.2.2.2.2 gX6_addUser_X6_in rfl rfl rfl (by decide +kernel) ⟨Nat.le_of_ble_eq_true rfl, Nat.le_of_ble_eq_true rfl⟩) rfl rfl (Nat.le_of_ble_eq_true rfl) dX6_addUser_18 (fun r3 τ3 hJ => ?_)
    obtain ⟨hJt, hJf⟩ := hJ
    refine V_if_eq C (tgt := 34) dX6_addUser_21 rfl (fun hc4 => ?_) (fun hc4 => ?_)
    · have hJ := hJt hc4; clear hJt hJf
      refine V_bipush (v := (-102)) C dX6_addUser_34 cb_m102 ?_
      exact V_iret C hr hlocks dX6_addUser_36 hJ
    · have hJ := hJf hc4; clear hJt hJf
      refine V_iload_n C dX6_addUser_24 3 rfl ?_
      refine V_iconst (v := 0) C dX6_addUser_25 ci_0 ?_
      refine V_bipush (v := 60) C dX6_addUser_26 cb_60 ?_
      refine V_cSi (st := []) C (M_X6_in l D tc ad A x3 0 60 hJ) (va_cwS 3 C.1.2.2.2.2 gX6_addUser_X6_in rfl rfl rfl (by decide +kernel) ⟨Nat.le_of_ble_eq_true rfl, Nat.le_of_ble_eq_true rfl⟩) rfl rfl (Nat.le_of_ble_eq_true rfl) dX6_addUser_28 (fun r5 τ5 hJ => ?_)
      obtain ⟨hJt, hJf⟩ := hJ
      refine V_if_ne C (tgt := 37) dX6_addUser_31 rfl (fun hc6 => ?_) (fun hc6 => ?_)
      · have hJ := hJt hc6; clear hJt hJf
        refine V_aload_n C dX6_addUser_37 0 rfl ?_
        refine V_get (ci := 6) C okM_0 uX6 rfl 0 (Nat.le_of_ble_eq_true rfl) rfl rfl f7 dX6_addUser_38 ?_
        refine V_iconst (v := 2) C dX6_addUser_41 ci_2 ?_
        refine V_iald C okM_1 0 rfl rfl ix_2 vpc_2_214 dX6_addUser_42 ?_
        refine V_bipush (v := 12) C dX6_addUser_43 cb_12 ?_
        obtain ⟨hJt, hJf⟩ := hJ
        refine V_icmp_ne C (tgt := 53) dX6_addUser_45 rfl (fun hc7 => ?_) (fun hc7 => ?_)
        · have hJ := hJt hc7; clear hJt hJf
          refine V_aload_n C dX6_addUser_53 0 rfl ?_
          refine V_iload_n C dX6_addUser_54 1 rfl ?_
          refine V_iload_n C dX6_addUser_55 2 rfl ?_
          refine V_iload_n C dX6_addUser_56 3 rfl ?_
          refine V_cVi (st := []) (ci := 6) C okM_0 (M_X6_addsUser l D tc ad A x1 x2 x3 hJ) (cwV 3 C.1.2.2.2.2 gX6_addUser_X6_addsUser rfl rfl rfl (by decide +kernel) ⟨Nat.le_of_ble_eq_true rfl, Nat.le_of_ble_eq_true rfl⟩) rfl rfl rfl rfl (Nat.le_of_ble_eq_true rfl) dX6_addUser_57 (fun r8 τ8 hJ => ?_)
          exact V_iret C hr hlocks dX6_addUser_60 hJ
        · have hJ := hJf hc7; clear hJt hJf
          refine V_bipush (v := (-104)) C dX6_addUser_48 cb_m104 ?_
          refine V_goto C (tgt := 60) dX6_addUser_50 rfl ?_
          exact V_iret C hr hlocks dX6_addUser_60 hJ
      · have hJ := hJf hc6; clear hJt hJf
        refine V_bipush (v := (-102)) C dX6_addUser_34 cb_m102 ?_
        exact V_iret C hr hlocks dX6_addUser_36 hJ
  · have hJ := hJf hc2; clear hJt hJf
    refine V_bipush (v := (-101)) C dX6_addUser_8 cb_m101 ?_
    exact V_iret C hr hlocks dX6_addUser_10 hJ
set_option maxHeartbeats 4000000 in
set_option maxRecDepth 100000 in
theorem M_X6_turnNow (l : Launch) (D : va_G) (tc : Nat → ClassId) (ad : Oid → Nat) (A : Nat → Prop) {σ : Mem} {Qr : Int32 → Mem → Prop} (hJ : J_X6_turnNow σ Qr) : Met l yX6_turnNow wsX6_turnNow ({ frames := 0, cells := 0, slots := 0, locals := 0 }) (va_Pc [.ref (ad (0, 0, 0))] (WdI D vwCl (tysX tc) idsM ad (ceM tc ad) A σ)) (va_Qi (fun (r : Int32) (u : Mem) => Qr r u) (WdO D vwCl idsM ad (ceM tc ad) A) A) 0 0 A := by
  refine V_meti (cc := cX6_turnNow) (nL := 4) (ret := (some .int)) (own := RX6) rfl (plainFor_of_name (by decide)) rfl rfl (Nat.le_of_ble_eq_true rfl) ?_
  intro p e s m below meth c C hr hlocks
  refine V_sub (lv' := [(0, .ref (ad (0, 0, 0)))]) [0] rfl ?_
  have f7 : Cond.fieldLink RX6 7 (TX6 0).1 (TX6 0).2.1 (TX6 0).2.2.1 ∈ wsX6_turnNow := List.mem_of_getElem? (i := 1) rfl
  have uX6 : ∀ w ∈ u_ws RX6 TX6 12, w ∈ wsX6_turnNow := by decide +kernel
  unfold J_X6_turnNow at hJ
  refine V_iconst (v := 0) C dX6_turnNow_0 ci_0 ?_
  refine V_istore_n (lv' := [(1, .int 0), (0, .ref (ad (0, 0, 0)))]) C dX6_turnNow_1 (by decide) rfl ?_
  refine V_iconst (v := 0) C dX6_turnNow_2 ci_0 ?_
  refine V_istore_n (lv' := [(2, .int 0), (1, .int 0), (0, .ref (ad (0, 0, 0)))]) C dX6_turnNow_3 (by decide) rfl ?_
  refine V_sub (lv' := [(0, .ref (ad (0, 0, 0))), (1, .int 0), (2, .int 0)]) [2, 1, 0] rfl ?_
  obtain ⟨I4, μ4, hI4, hst4⟩ := hJ
  have L4 : ∀ (n : Nat) (x1_1 : Int32) (x2_1 : Int32), μ4 x1_1 x2_1 < n → I4 x1_1 x2_1 → VV p l e (headSpec wsX6_turnNow ({ frames := 0, cells := 0, slots := 0, locals := 0 })).room s m ([.ref (ad (0, 0, 0))] : List Value).toArray below meth c D vwCl idsM ad (ceM tc ad) A (MQ below (va_Qi (fun (r : Int32) (u : Mem) => Qr r u) (WdO D vwCl idsM ad (ceM tc ad) A) A) ([.ref (ad (0, 0, 0))] : List Value).toArray s 0 0 A) 4 4 [(0, .ref (ad (0, 0, 0))), (1, .int x1_1), (2, .int x2_1)] [] σ := by
    intro n
    induction n with
    | zero => intro x1_1 x2_1 hμ _; exact absurd hμ (Nat.not_lt_zero _)
    | succ n ihn =>
      intro x1_1 x2_1 hμ4 hJ
      have ih4 := ihn
      replace hJ := hst4 x1_1 x2_1 hJ
      refine V_iload_n C dX6_turnNow_4 2 rfl ?_
      refine V_aload_n C dX6_turnNow_5 0 rfl ?_
      refine V_get (ci := 6) C okM_0 uX6 rfl 0 (Nat.le_of_ble_eq_true rfl) rfl rfl f7 dX6_turnNow_6 ?_
      refine V_iconst (v := 2) C dX6_turnNow_9 ci_2 ?_
      refine V_iald C okM_1 0 rfl rfl ix_2 vpc_2_214 dX6_turnNow_10 ?_
      obtain ⟨hJt, hJf⟩ := hJ
      refine V_icmp_ge C (tgt := 33) dX6_turnNow_11 rfl (fun hc2 => ?_) (fun hc2 => ?_)
      · have hJ := hJt hc2; clear hJt hJf
        refine V_aload_n C dX6_turnNow_33 0 rfl ?_
        refine V_get (ci := 6) C okM_0 uX6 rfl 0 (Nat.le_of_ble_eq_true rfl) rfl rfl f7 dX6_turnNow_34 ?_
        refine V_iconst (v := 3) C dX6_turnNow_37 ci_3 ?_
        refine V_iald C okM_1 0 rfl rfl ix_3 vpc_3_214 dX6_turnNow_38 ?_
        refine V_iconst (v := 1) C dX6_turnNow_39 ci_1 ?_
        obtain ⟨hJt, hJf⟩ := hJ
        refine V_icmp_ne C (tgt := 47) dX6_turnNow_40 rfl (fun hc3 => ?_) (fun hc3 => ?_)
        · have hJ := hJt hc3; clear hJt hJf
          refine V_iconst (v := (-1)) C dX6_turnNow_47 ci_m1 ?_
          exact V_iret C hr hlocks dX6_turnNow_48 hJ
        · have hJ := hJf hc3; clear hJt hJf
          refine V_iload_n C dX6_turnNow_43 1 rfl ?_
          obtain ⟨hJt, hJf⟩ := hJ
          refine V_if_ne C (tgt := 49) dX6_turnNow_44 rfl (fun hc4 => ?_) (fun hc4 => ?_)
          · have hJ := hJt hc4; clear hJt hJf
            refine V_aload_n C dX6_turnNow_49 0 rfl ?_
            refine V_get (ci := 6) C okM_0 uX6 rfl 0 (Nat.le_of_ble_eq_true rfl) rfl rfl f7 dX6_turnNow_50 ?_
            refine V_iconst (v := 0) C dX6_turnNow_53 ci_0 ?_
            refine V_iald C okM_1 0 rfl rfl ix_0 vpc_0_214 dX6_turnNow_54 ?_
            refine V_iload_n C dX6_turnNow_55 1 rfl ?_
            obtain ⟨hz5, hJ⟩ := hJ
            refine V_irem C dX6_turnNow_56 hz5 ?_
            refine V_topi (fun x2_6 hx2_6 => ?_)
            replace hJ := hJ x2_6 hx2_6
            refine V_istore_n (lv' := [(2, .int x2_6), (0, .ref (ad (0, 0, 0))), (1, .int x1_1)]) C dX6_turnNow_57 (by decide) rfl ?_
            refine V_iconst (v := 0) C dX6_turnNow_58 ci_0 ?_
            refine V_istore_n (lv' := [(3, .int 0), (2, .int x2_6), (0, .ref (ad (0, 0, 0))), (1, .int x1_1)]) C dX6_turnNow_59 (by decide) rfl ?_
            refine V_sub (lv' := [(0, .ref (ad (0, 0, 0))), (2, .int x2_6), (3, .int 0)]) [2, 1, 0] rfl ?_
            obtain ⟨I60, μ60, hI60, hst60⟩ := hJ
            have L60 : ∀ (n : Nat) (x2_7 : Int32) (x3_7 : Int32), μ60 x2_7 x3_7 < n → I60 x2_7 x3_7 → VV p l e (headSpec wsX6_turnNow ({ frames := 0, cells := 0, slots := 0, locals := 0 })).room s m ([.ref (ad (0, 0, 0))] : List Value).toArray below meth c D vwCl idsM ad (ceM tc ad) A (MQ below (va_Qi (fun (r : Int32) (u : Mem) => Qr r u) (WdO D vwCl idsM ad (ceM tc ad) A) A) ([.ref (ad (0, 0, 0))] : List Value).toArray s 0 0 A) 4 60 [(0, .ref (ad (0, 0, 0))), (2, .int x2_7), (3, .int x3_7)] [] σ := by
              intro n
              induction n with
              | zero => intro x2_7 x3_7 hμ _; exact absurd hμ (Nat.not_lt_zero _)
              | succ n ihn =>
                intro x2_7 x3_7 hμ60 hJ
                have ih60 := ihn
                replace hJ := hst60 x2_7 x3_7 hJ
                refine V_iload_n C dX6_turnNow_60 1 rfl ?_
                refine V_aload_n C dX6_turnNow_61 0 rfl ?_
                refine V_get (ci := 6) C okM_0 uX6 rfl 0 (Nat.le_of_ble_eq_true rfl) rfl rfl f7 dX6_turnNow_62 ?_
                refine V_sipush (v := 178) C dX6_turnNow_65 cs_178 ?_
                refine V_iload_n C dX6_turnNow_68 2 rfl ?_
                refine V_iadd C dX6_turnNow_69 ?_
                obtain ⟨hv8, hJ⟩ := hJ
                refine V_iald C okM_1 0 rfl rfl rfl hv8 dX6_turnNow_70 ?_
                obtain ⟨hJt, hJf⟩ := hJ
                refine V_icmp_lt C (tgt := 93) dX6_turnNow_71 rfl (fun hc9 => ?_) (fun hc9 => ?_)
                · have hJ := hJt hc9; clear hJt hJf
                  refine V_iload_n C dX6_turnNow_93 2 rfl ?_
                  exact V_iret C hr hlocks dX6_turnNow_94 hJ
                · have hJ := hJf hc9; clear hJt hJf
                  refine V_iload_n C dX6_turnNow_74 1 rfl ?_
                  refine V_aload_n C dX6_turnNow_75 0 rfl ?_
                  refine V_get (ci := 6) C okM_0 uX6 rfl 0 (Nat.le_of_ble_eq_true rfl) rfl rfl f7 dX6_turnNow_76 ?_
                  refine V_sipush (v := 178) C dX6_turnNow_79 cs_178 ?_
                  refine V_iload_n C dX6_turnNow_82 2 rfl ?_
                  refine V_iadd C dX6_turnNow_83 ?_
                  obtain ⟨hv10, hJ⟩ := hJ
                  refine V_iald C okM_1 0 rfl rfl rfl hv10 dX6_turnNow_84 ?_
                  refine V_isub C dX6_turnNow_85 ?_
                  refine V_topi (fun x2_11 hx2_11 => ?_)
                  replace hJ := hJ x2_11 hx2_11
                  refine V_istore_n (lv' := [(2, .int x2_11), (0, .ref (ad (0, 0, 0))), (3, .int x3_7)]) C dX6_turnNow_86 (by decide) rfl ?_
                  obtain ⟨x3_12, hx3_12⟩ : ∃ y : Int32, y = x3_7 + 1 := ⟨_, rfl⟩
                  replace hJ := hJ x3_12 hx3_12
                  refine V_iinc (v := x3_12) (lv' := [(3, .int x3_12), (2, .int x2_11), (0, .ref (ad (0, 0, 0)))]) C dX6_turnNow_87 2 rfl (by rw [hx3_12]; exact congrArg _ ci_1) (by decide) rfl ?_
                  refine V_goto C (tgt := 60) dX6_turnNow_90 rfl ?_
                  refine V_sub (lv' := [(0, .ref (ad (0, 0, 0))), (2, .int x2_11), (3, .int x3_12)]) [2, 1, 0] rfl ?_
                  exact ih60 x2_11 x3_12 (Nat.lt_of_lt_of_le hJ.2 (Nat.le_of_lt_succ hμ60)) hJ.1
            exact L60 _ x2_6 0 (Nat.lt_succ_self _) hI60
          · have hJ := hJf hc4; clear hJt hJf
            refine V_iconst (v := (-1)) C dX6_turnNow_47 ci_m1 ?_
            exact V_iret C hr hlocks dX6_turnNow_48 hJ
      · have hJ := hJf hc2; clear hJt hJf
        refine V_iload_n C dX6_turnNow_14 1 rfl ?_
        refine V_aload_n C dX6_turnNow_15 0 rfl ?_
        refine V_get (ci := 6) C okM_0 uX6 rfl 0 (Nat.le_of_ble_eq_true rfl) rfl rfl f7 dX6_turnNow_16 ?_
        refine V_sipush (v := 178) C dX6_turnNow_19 cs_178 ?_
        refine V_iload_n C dX6_turnNow_22 2 rfl ?_
        refine V_iadd C dX6_turnNow_23 ?_
        obtain ⟨hv13, hJ⟩ := hJ
        refine V_iald C okM_1 0 rfl rfl rfl hv13 dX6_turnNow_24 ?_
        refine V_iadd C dX6_turnNow_25 ?_
        refine V_topi (fun x1_14 hx1_14 => ?_)
        replace hJ := hJ x1_14 hx1_14
        refine V_istore_n (lv' := [(1, .int x1_14), (0, .ref (ad (0, 0, 0))), (2, .int x2_1)]) C dX6_turnNow_26 (by decide) rfl ?_
        obtain ⟨x2_15, hx2_15⟩ : ∃ y : Int32, y = x2_1 + 1 := ⟨_, rfl⟩
        replace hJ := hJ x2_15 hx2_15
        refine V_iinc (v := x2_15) (lv' := [(2, .int x2_15), (1, .int x1_14), (0, .ref (ad (0, 0, 0)))]) C dX6_turnNow_27 2 rfl (by rw [hx2_15]; exact congrArg _ ci_1) (by decide) rfl ?_
        refine V_goto C (tgt := 4) dX6_turnNow_30 rfl ?_
        refine V_sub (lv' := [(0, .ref (ad (0, 0, 0))), (1, .int x1_14), (2, .int x2_15)]) [2, 1, 0] rfl ?_
        exact ih4 x1_14 x2_15 (Nat.lt_of_lt_of_le hJ.2 (Nat.le_of_lt_succ hμ4)) hJ.1
  exact L4 _ 0 0 (Nat.lt_succ_self _) hI4
set_option maxHeartbeats 4000000 in
set_option maxRecDepth 100000 in
theorem M_X6_hour (l : Launch) (D : va_G) (tc : Nat → ClassId) (ad : Oid → Nat) (A : Nat → Prop) {σ : Mem} {Qr : Int32 → Mem → Prop} (hJ : J_X6_hour σ Qr) : Met l yX6_hour wsX6_hour ({ frames := 0, cells := 0, slots := 0, locals := 0 }) (va_Pc [.ref (ad (0, 0, 0))] (WdI D vwCl (tysX tc) idsM ad (ceM tc ad) A σ)) (va_Qi (fun (r : Int32) (u : Mem) => Qr r u) (WdO D vwCl idsM ad (ceM tc ad) A) A) 0 0 A := by
  refine V_meti (cc := cX6_hour) (nL := 1) (ret := (some .int)) (own := RX6) rfl (plainFor_of_name (by decide)) rfl rfl (Nat.le_of_ble_eq_true rfl) ?_
  intro p e s m below meth c C hr hlocks
  refine V_sub (lv' := [(0, .ref (ad (0, 0, 0)))]) [0] rfl ?_
  have f7 : Cond.fieldLink RX6 7 (TX6 0).1 (TX6 0).2.1 (TX6 0).2.2.1 ∈ wsX6_hour := List.mem_of_getElem? (i := 1) rfl
  have uX6 : ∀ w ∈ u_ws RX6 TX6 12, w ∈ wsX6_hour := by decide +kernel
  unfold J_X6_hour at hJ
  refine V_aload_n C dX6_hour_0 0 rfl ?_
  refine V_get (ci := 6) C okM_0 uX6 rfl 0 (Nat.le_of_ble_eq_true rfl) rfl rfl f7 dX6_hour_1 ?_
  refine V_iconst (v := 0) C dX6_hour_4 ci_0 ?_
  refine V_iald C okM_1 0 rfl rfl ix_0 vpc_0_214 dX6_hour_5 ?_
  refine V_bipush (v := 24) C dX6_hour_6 cb_24 ?_
  refine V_irem C dX6_hour_8 (by decide) ?_
  exact V_iret C hr hlocks dX6_hour_9 hJ
set_option maxHeartbeats 4000000 in
set_option maxRecDepth 100000 in
theorem M_X6_need (l : Launch) (D : va_G) (tc : Nat → ClassId) (ad : Oid → Nat) (A : Nat → Prop) (x1 : Int32) {σ : Mem} {Qr : Int32 → Mem → Prop} (hJ : J_X6_need x1 σ Qr) : Met l yX6_need wsX6_need ({ frames := 1, cells := 0, slots := 0, locals := 22 }) (va_Pc [.ref (ad (0, 0, 0)), .int x1] (WdI D vwCl (tysX tc) idsM ad (ceM tc ad) A σ)) (va_Qi (fun (r : Int32) (u : Mem) => Qr r u) (WdO D vwCl idsM ad (ceM tc ad) A) A) 0 0 A := by
  refine V_meti (cc := cX6_need) (nL := 2) (ret := (some .int)) (own := RX6) rfl (plainFor_of_name (by decide)) rfl rfl (Nat.le_of_ble_eq_true rfl) ?_
  intro p e s m below meth c C hr hlocks
  refine V_sub (lv' := [(0, .ref (ad (0, 0, 0))), (1, .int x1)]) [0, 1] rfl ?_
  have f7 : Cond.fieldLink RX6 7 (TX6 0).1 (TX6 0).2.1 (TX6 0).2.2.1 ∈ wsX6_need := List.mem_of_getElem? (i := 1) rfl
  have uX6 : ∀ w ∈ u_ws RX6 TX6 12, w ∈ wsX6_need := by decide +kernel
  unfold J_X6_need at hJ
  refine V_aload_n C dX6_need_0 0 rfl ?_
  refine V_cVi (st := []) (ci := 6) C okM_0 (M_X6_hour l D tc ad A  hJ) (cwV 0 C.1.2.2.2.2 gX6_need_X6_hour rfl rfl rfl (by decide +kernel) ⟨Nat.le_of_ble_eq_true rfl, Nat.le_of_ble_eq_true rfl⟩) rfl rfl rfl rfl (Nat.le_of_ble_eq_true rfl) dX6_need_1 (fun r1 τ1 hJ => ?_)
  refine V_aload_n C dX6_need_4 0 rfl ?_
  refine V_get (ci := 6) C okM_0 uX6 rfl 0 (Nat.le_of_ble_eq_true rfl) rfl rfl f7 dX6_need_5 ?_
  refine V_bipush (v := 118) C dX6_need_8 cb_118 ?_
  refine V_iload_n C dX6_need_10 1 rfl ?_
  refine V_iadd C dX6_need_11 ?_
  obtain ⟨hv2, hJ⟩ := hJ
  refine V_iald C okM_1 0 rfl rfl rfl hv2 dX6_need_12 ?_
  refine V_aload_n C dX6_need_13 0 rfl ?_
  refine V_get (ci := 6) C okM_0 uX6 rfl 0 (Nat.le_of_ble_eq_true rfl) rfl rfl f7 dX6_need_14 ?_
  refine V_sipush (v := 130) C dX6_need_17 cs_130 ?_
  refine V_iload_n C dX6_need_20 1 rfl ?_
  refine V_iadd C dX6_need_21 ?_
  obtain ⟨hv3, hJ⟩ := hJ
  refine V_iald C okM_1 0 rfl rfl rfl hv3 dX6_need_22 ?_
  refine V_iconst (v := 1) C dX6_need_23 ci_1 ?_
  refine V_isub C dX6_need_24 ?_
  refine V_cSi (st := []) C (M_X6_in l D tc ad A r1 (τ1 (1, 0, 0) ((118 + x1).toNatClampNeg)) ((τ1 (1, 0, 0) ((130 + x1).toNatClampNeg)) - 1) hJ) (va_cwS 3 C.1.2.2.2.2 gX6_need_X6_in rfl rfl rfl (by decide +kernel) ⟨Nat.le_of_ble_eq_true rfl, Nat.le_of_ble_eq_true rfl⟩) rfl rfl (Nat.le_of_ble_eq_true rfl) dX6_need_25 (fun r4 τ4 hJ => ?_)
  obtain ⟨hJt, hJf⟩ := hJ
  refine V_if_eq C (tgt := 43) dX6_need_28 rfl (fun hc5 => ?_) (fun hc5 => ?_)
  · have hJ := hJt hc5; clear hJt hJf
    refine V_iconst (v := 0) C dX6_need_43 ci_0 ?_
    exact V_iret C hr hlocks dX6_need_44 hJ
  · have hJ := hJf hc5; clear hJt hJf
    refine V_aload_n C dX6_need_31 0 rfl ?_
    refine V_get (ci := 6) C okM_0 uX6 rfl 0 (Nat.le_of_ble_eq_true rfl) rfl rfl f7 dX6_need_32 ?_
    refine V_bipush (v := 106) C dX6_need_35 cb_106 ?_
    refine V_iload_n C dX6_need_37 1 rfl ?_
    refine V_iadd C dX6_need_38 ?_
    obtain ⟨hv6, hJ⟩ := hJ
    refine V_iald C okM_1 0 rfl rfl rfl hv6 dX6_need_39 ?_
    refine V_goto C (tgt := 44) dX6_need_40 rfl ?_
    exact V_iret C hr hlocks dX6_need_44 hJ
set_option maxHeartbeats 4000000 in
set_option maxRecDepth 100000 in
theorem M_X6_least (l : Launch) (D : va_G) (tc : Nat → ClassId) (ad : Oid → Nat) (A : Nat → Prop) (x0 : Int32) (x1 : Int32) {σ : Mem} {Qr : Int32 → Mem → Prop} (hJ : J_X6_least x0 x1 σ Qr) : Met l yX6_least wsX6_least ({ frames := 0, cells := 0, slots := 0, locals := 0 }) (va_Pc [.int x0, .int x1] (WdI D vwCl (tysX tc) idsM ad (ceM tc ad) A σ)) (va_Qi (fun (r : Int32) (u : Mem) => Qr r u) (WdO D vwCl idsM ad (ceM tc ad) A) A) 0 0 A := by
  refine V_meti (cc := cX6_least) (nL := 2) (ret := (some .int)) (own := RX6) rfl (plainFor_of_name (by decide)) rfl rfl (Nat.le_of_ble_eq_true rfl) ?_
  intro p e s m below meth c C hr hlocks
  refine V_sub (lv' := [(0, .int x0), (1, .int x1)]) [0, 1] rfl ?_
  unfold J_X6_least at hJ
  refine V_iload_n C dX6_least_0 0 rfl ?_
  refine V_iload_n C dX6_least_1 1 rfl ?_
  obtain ⟨hJt, hJf⟩ := hJ
  refine V_icmp_ge C (tgt := 9) dX6_least_2 rfl (fun hc1 => ?_) (fun hc1 => ?_)
  · have hJ := hJt hc1; clear hJt hJf
    refine V_iload_n C dX6_least_9 1 rfl ?_
    exact V_iret C hr hlocks dX6_least_10 hJ
  · have hJ := hJf hc1; clear hJt hJf
    refine V_iload_n C dX6_least_5 0 rfl ?_
    refine V_goto C (tgt := 10) dX6_least_6 rfl ?_
    exact V_iret C hr hlocks dX6_least_10 hJ
set_option maxHeartbeats 4000000 in
set_option maxRecDepth 100000 in
theorem M_X6_findAsked (l : Launch) (D : va_G) (tc : Nat → ClassId) (ad : Oid → Nat) (A : Nat → Prop) {σ : Mem} {Qr : Mem → Prop} (hJ : J_X6_findAsked σ Qr) : Met l yX6_findAsked wsX6_findAsked ({ frames := 2, cells := 0, slots := 0, locals := 43 }) (va_Pc [.ref (ad (0, 0, 0))] (WdI D vwCl (tysX tc) idsM ad (ceM tc ad) A σ)) (va_Qv (fun (u : Mem) => Qr u) (WdO D vwCl idsM ad (ceM tc ad) A) A) 0 0 A := by
  refine V_metv (cc := cX6_findAsked) (nL := 4) (ret := none) (own := RX6) rfl (plainFor_of_name (by decide)) rfl rfl (Nat.le_of_ble_eq_true rfl) ?_
  intro p e s m below meth c C hr hlocks
  refine V_sub (lv' := [(0, .ref (ad (0, 0, 0)))]) [0] rfl ?_
  have f7 : Cond.fieldLink RX6 7 (TX6 0).1 (TX6 0).2.1 (TX6 0).2.2.1 ∈ wsX6_findAsked := List.mem_of_getElem? (i := 1) rfl
  have uX6 : ∀ w ∈ u_ws RX6 TX6 12, w ∈ wsX6_findAsked := by decide +kernel
  have f26 : Cond.fieldLink RX6 26 (TX6 6).1 (TX6 6).2.1 (TX6 6).2.2.1 ∈ wsX6_findAsked := List.mem_of_getElem? (i := 2) rfl
  unfold J_X6_findAsked at hJ
  refine V_aload_n C dX6_findAsked_0 0 rfl ?_
  refine V_cVi (st := []) (ci := 6) C okM_0 (M_X6_turnNow l D tc ad A  hJ) (cwV 0 C.1.2.2.2.2 gX6_findAsked_X6_turnNow rfl rfl rfl (by decide +kernel) ⟨Nat.le_of_ble_eq_true rfl, Nat.le_of_ble_eq_true rfl⟩) rfl rfl rfl rfl (Nat.le_of_ble_eq_true rfl) dX6_findAsked_1 (fun r1 τ1 hJ => ?_)
  refine V_istore_n (lv' := [(1, .int r1), (0, .ref (ad (0, 0, 0)))]) C dX6_findAsked_4 (by decide) rfl ?_
  refine V_iconst (v := 0) C dX6_findAsked_5 ci_0 ?_
  refine V_istore_n (lv' := [(2, .int 0), (1, .int r1), (0, .ref (ad (0, 0, 0)))]) C dX6_findAsked_6 (by decide) rfl ?_
  refine V_sub (lv' := [(0, .ref (ad (0, 0, 0))), (1, .int r1), (2, .int 0)]) [2, 1, 0] rfl ?_
  obtain ⟨I7, μ7, hI7, hst7⟩ := hJ
  have L7 : ∀ (n : Nat) (x2_2 : Int32) (τ2 : Mem), μ7 x2_2 τ2 < n → I7 x2_2 τ2 → VV p l e (headSpec wsX6_findAsked ({ frames := 2, cells := 0, slots := 0, locals := 43 })).room s m ([.ref (ad (0, 0, 0))] : List Value).toArray below meth c D vwCl idsM ad (ceM tc ad) A (MQ below (va_Qv (fun (u : Mem) => Qr u) (WdO D vwCl idsM ad (ceM tc ad) A) A) ([.ref (ad (0, 0, 0))] : List Value).toArray s 0 0 A) 4 7 [(0, .ref (ad (0, 0, 0))), (1, .int r1), (2, .int x2_2)] [] τ2 := by
    intro n
    induction n with
    | zero => intro x2_2 τ2 hμ _; exact absurd hμ (Nat.not_lt_zero _)
    | succ n ihn =>
      intro x2_2 τ2 hμ7 hJ
      have ih7 := ihn
      replace hJ := hst7 x2_2 τ2 hJ
      refine V_iload_n C dX6_findAsked_7 2 rfl ?_
      refine V_aload_n C dX6_findAsked_8 0 rfl ?_
      refine V_get (ci := 6) C okM_0 uX6 rfl 0 (Nat.le_of_ble_eq_true rfl) rfl rfl f7 dX6_findAsked_9 ?_
      refine V_iconst (v := 2) C dX6_findAsked_12 ci_2 ?_
      refine V_iald C okM_1 0 rfl rfl ix_2 vpc_2_214 dX6_findAsked_13 ?_
      obtain ⟨hJt, hJf⟩ := hJ
      refine V_icmp_ge C (tgt := 97) dX6_findAsked_14 rfl (fun hc3 => ?_) (fun hc3 => ?_)
      · have hJ := hJt hc3; clear hJt hJf
        exact V_vret C hr hlocks dX6_findAsked_97 hJ
      · have hJ := hJf hc3; clear hJt hJf
        refine V_aload_n C dX6_findAsked_17 0 rfl ?_
        refine V_iload_n C dX6_findAsked_18 2 rfl ?_
        refine V_cVi (st := []) (ci := 6) C okM_0 (M_X6_need l D tc ad A x2_2 hJ) (cwV 1 C.1.2.2.2.2 gX6_findAsked_X6_need rfl rfl rfl (by decide +kernel) ⟨Nat.le_of_ble_eq_true rfl, Nat.le_of_ble_eq_true rfl⟩) rfl rfl rfl rfl (Nat.le_of_ble_eq_true rfl) dX6_findAsked_19 (fun r4 τ4 hJ => ?_)
        refine V_aload_n C dX6_findAsked_22 0 rfl ?_
        refine V_get (ci := 6) C okM_0 uX6 rfl 0 (Nat.le_of_ble_eq_true rfl) rfl rfl f7 dX6_findAsked_23 ?_
        refine V_sipush (v := 142) C dX6_findAsked_26 cs_142 ?_
        refine V_iload_n C dX6_findAsked_29 2 rfl ?_
        refine V_iadd C dX6_findAsked_30 ?_
        obtain ⟨hv5, hJ⟩ := hJ
        refine V_iald C okM_1 0 rfl rfl rfl hv5 dX6_findAsked_31 ?_
        refine V_iadd C dX6_findAsked_32 ?_
        refine V_aload_n C dX6_findAsked_33 0 rfl ?_
        refine V_get (ci := 6) C okM_0 uX6 rfl 0 (Nat.le_of_ble_eq_true rfl) rfl rfl f7 dX6_findAsked_34 ?_
        refine V_sipush (v := 154) C dX6_findAsked_37 cs_154 ?_
        refine V_iload_n C dX6_findAsked_40 2 rfl ?_
        refine V_iadd C dX6_findAsked_41 ?_
        obtain ⟨hv6, hJ⟩ := hJ
        refine V_iald C okM_1 0 rfl rfl rfl hv6 dX6_findAsked_42 ?_
        refine V_isub C dX6_findAsked_43 ?_
        refine V_topi (fun x3_7 hx3_7 => ?_)
        replace hJ := hJ x3_7 hx3_7
        refine V_istore_n (lv' := [(3, .int x3_7), (0, .ref (ad (0, 0, 0))), (1, .int r1), (2, .int x2_2)]) C dX6_findAsked_44 (by decide) rfl ?_
        refine V_aload_n C dX6_findAsked_45 1 rfl ?_
        refine V_get (ci := 6) C okM_0 uX6 rfl 6 (Nat.le_of_ble_eq_true rfl) rfl rfl f26 dX6_findAsked_46 ?_
        refine V_iload_n C dX6_findAsked_49 3 rfl ?_
        refine V_aload_n C dX6_findAsked_50 1 rfl ?_
        refine V_get (ci := 6) C okM_0 uX6 rfl 0 (Nat.le_of_ble_eq_true rfl) rfl rfl f7 dX6_findAsked_51 ?_
        refine V_sipush (v := 202) C dX6_findAsked_54 cs_202 ?_
        refine V_iload_n C dX6_findAsked_57 3 rfl ?_
        refine V_iadd C dX6_findAsked_58 ?_
        obtain ⟨hv8, hJ⟩ := hJ
        refine V_iald C okM_1 0 rfl rfl rfl hv8 dX6_findAsked_59 ?_
        refine V_iconst (v := 1) C dX6_findAsked_60 ci_1 ?_
        obtain ⟨hJt, hJf⟩ := hJ
        refine V_icmp_ne C (tgt := 68) dX6_findAsked_61 rfl (fun hc9 => ?_) (fun hc9 => ?_)
        · have hJ := hJt hc9; clear hJt hJf
          refine V_iload_n C dX6_findAsked_68 3 rfl ?_
          refine V_iload_n C dX6_findAsked_69 2 rfl ?_
          obtain ⟨hJt, hJf⟩ := hJ
          refine V_icmp_ne C (tgt := 77) dX6_findAsked_70 rfl (fun hc10 => ?_) (fun hc10 => ?_)
          · have hJ := hJt hc10; clear hJt hJf
            refine V_iload_n C dX6_findAsked_77 0 rfl ?_
            refine V_aload_n C dX6_findAsked_78 1 rfl ?_
            refine V_get (ci := 6) C okM_0 uX6 rfl 0 (Nat.le_of_ble_eq_true rfl) rfl rfl f7 dX6_findAsked_79 ?_
            refine V_bipush (v := 94) C dX6_findAsked_82 cb_94 ?_
            refine V_iload_n C dX6_findAsked_84 3 rfl ?_
            refine V_iadd C dX6_findAsked_85 ?_
            obtain ⟨hv11, hJ⟩ := hJ
            refine V_iald C okM_1 0 rfl rfl rfl hv11 dX6_findAsked_86 ?_
            refine V_cSi (st := [.int x2_2, .ref (ad (6, 0, 0))]) C (M_X6_least l D tc ad A x3_7 (τ4 (1, 0, 0) ((94 + x2_2).toNatClampNeg)) hJ) (va_cwS 2 C.1.2.2.2.2 gX6_findAsked_X6_least rfl rfl rfl (by decide +kernel) ⟨Nat.le_of_ble_eq_true rfl, Nat.le_of_ble_eq_true rfl⟩) rfl rfl (Nat.le_of_ble_eq_true rfl) dX6_findAsked_87 (fun r12 τ12 hJ => ?_)
            obtain ⟨hv13, hJ⟩ := hJ
            refine V_iast C okM_6 0 rfl (fun _ => rfl) rfl hv13 dX6_findAsked_90 (fun τ14 hτ14 => ?_)
            replace hJ := hJ τ14 hτ14
            obtain ⟨x2_15, hx2_15⟩ : ∃ y : Int32, y = x2_2 + 1 := ⟨_, rfl⟩
            replace hJ := hJ x2_15 hx2_15
            refine V_iinc (v := x2_15) (lv' := [(2, .int x2_15), (3, .int x3_7), (0, .ref (ad (0, 0, 0))), (1, .int r1)]) C dX6_findAsked_91 3 rfl (by rw [hx2_15]; exact congrArg _ ci_1) (by decide) rfl ?_
            refine V_goto C (tgt := 7) dX6_findAsked_94 rfl ?_
            refine V_sub (lv' := [(0, .ref (ad (0, 0, 0))), (1, .int r1), (2, .int x2_15)]) [2, 3, 0] rfl ?_
            exact ih7 x2_15 τ14 (Nat.lt_of_lt_of_le hJ.2 (Nat.le_of_lt_succ hμ7)) hJ.1
          · have hJ := hJf hc10; clear hJt hJf
            refine V_iload_n C dX6_findAsked_73 0 rfl ?_
            refine V_goto C (tgt := 90) dX6_findAsked_74 rfl ?_
            obtain ⟨hv16, hJ⟩ := hJ
            refine V_iast C okM_6 0 rfl (fun _ => rfl) rfl hv16 dX6_findAsked_90 (fun τ17 hτ17 => ?_)
            replace hJ := hJ τ17 hτ17
            obtain ⟨x2_18, hx2_18⟩ : ∃ y : Int32, y = x2_2 + 1 := ⟨_, rfl⟩
            replace hJ := hJ x2_18 hx2_18
            refine V_iinc (v := x2_18) (lv' := [(2, .int x2_18), (3, .int x3_7), (0, .ref (ad (0, 0, 0))), (1, .int r1)]) C dX6_findAsked_91 3 rfl (by rw [hx2_18]; exact congrArg _ ci_1) (by decide) rfl ?_
            refine V_goto C (tgt := 7) dX6_findAsked_94 rfl ?_
            refine V_sub (lv' := [(0, .ref (ad (0, 0, 0))), (1, .int r1), (2, .int x2_18)]) [2, 3, 0] rfl ?_
            exact ih7 x2_18 τ17 (Nat.lt_of_lt_of_le hJ.2 (Nat.le_of_lt_succ hμ7)) hJ.1
        · have hJ := hJf hc9; clear hJt hJf
          refine V_iconst (v := 0) C dX6_findAsked_64 ci_0 ?_
          refine V_goto C (tgt := 90) dX6_findAsked_65 rfl ?_
          obtain ⟨hv19, hJ⟩ := hJ
          refine V_iast C okM_6 0 rfl (fun _ => rfl) rfl hv19 dX6_findAsked_90 (fun τ20 hτ20 => ?_)
          replace hJ := hJ τ20 hτ20
          obtain ⟨x2_21, hx2_21⟩ : ∃ y : Int32, y = x2_2 + 1 := ⟨_, rfl⟩
          replace hJ := hJ x2_21 hx2_21
          refine V_iinc (v := x2_21) (lv' := [(2, .int x2_21), (3, .int x3_7), (0, .ref (ad (0, 0, 0))), (1, .int r1)]) C dX6_findAsked_91 3 rfl (by rw [hx2_21]; exact congrArg _ ci_1) (by decide) rfl ?_
          refine V_goto C (tgt := 7) dX6_findAsked_94 rfl ?_
          refine V_sub (lv' := [(0, .ref (ad (0, 0, 0))), (1, .int r1), (2, .int x2_21)]) [2, 3, 0] rfl ?_
          exact ih7 x2_21 τ20 (Nat.lt_of_lt_of_le hJ.2 (Nat.le_of_lt_succ hμ7)) hJ.1
  exact L7 _ 0 τ1 (Nat.lt_succ_self _) hI7
set_option maxHeartbeats 4000000 in
set_option maxRecDepth 100000 in
theorem M_X6_isPossible (l : Launch) (D : va_G) (tc : Nat → ClassId) (ad : Oid → Nat) (A : Nat → Prop) {σ : Mem} {Qr : Int32 → Mem → Prop} (hJ : J_X6_isPossible σ Qr) : Met l yX6_isPossible wsX6_isPossible ({ frames := 1, cells := 0, slots := 0, locals := 20 }) (va_Pc [.ref (ad (0, 0, 0))] (WdI D vwCl (tysX tc) idsM ad (ceM tc ad) A σ)) (va_Qi (fun (r : Int32) (u : Mem) => Qr r u) (WdO D vwCl idsM ad (ceM tc ad) A) A) 0 0 A := by
  refine V_meti (cc := cX6_isPossible) (nL := 4) (ret := (some .boolean)) (own := RX6) rfl (plainFor_of_name (by decide)) rfl rfl (Nat.le_of_ble_eq_true rfl) ?_
  intro p e s m below meth c C hr hlocks
  refine V_sub (lv' := [(0, .ref (ad (0, 0, 0)))]) [0] rfl ?_
  have f7 : Cond.fieldLink RX6 7 (TX6 0).1 (TX6 0).2.1 (TX6 0).2.2.1 ∈ wsX6_isPossible := List.mem_of_getElem? (i := 1) rfl
  have uX6 : ∀ w ∈ u_ws RX6 TX6 12, w ∈ wsX6_isPossible := by decide +kernel
  have f32 : Cond.fieldLink RX6 32 (TX6 8).1 (TX6 8).2.1 (TX6 8).2.2.1 ∈ wsX6_isPossible := List.mem_of_getElem? (i := 4) rfl
  have f35 : Cond.fieldLink RX6 35 (TX6 9).1 (TX6 9).2.1 (TX6 9).2.2.1 ∈ wsX6_isPossible := List.mem_of_getElem? (i := 2) rfl
  have f29 : Cond.fieldLink RX6 29 (TX6 7).1 (TX6 7).2.1 (TX6 7).2.2.1 ∈ wsX6_isPossible := List.mem_of_getElem? (i := 3) rfl
  unfold J_X6_isPossible at hJ
  refine V_iconst (v := 1) C dX6_isPossible_0 ci_1 ?_
  refine V_istore_n (lv' := [(1, .int 1), (0, .ref (ad (0, 0, 0)))]) C dX6_isPossible_1 (by decide) rfl ?_
  refine V_iconst (v := 0) C dX6_isPossible_2 ci_0 ?_
  refine V_istore_n (lv' := [(2, .int 0), (1, .int 1), (0, .ref (ad (0, 0, 0)))]) C dX6_isPossible_3 (by decide) rfl ?_
  refine V_sub (lv' := [(0, .ref (ad (0, 0, 0))), (1, .int 1), (2, .int 0)]) [2, 1, 0] rfl ?_
  obtain ⟨I4, μ4, hI4, hst4⟩ := hJ
  have L4 : ∀ (n : Nat) (x2_1 : Int32) (τ1 : Mem), μ4 x2_1 τ1 < n → I4 x2_1 τ1 → VV p l e (headSpec wsX6_isPossible ({ frames := 1, cells := 0, slots := 0, locals := 20 })).room s m ([.ref (ad (0, 0, 0))] : List Value).toArray below meth c D vwCl idsM ad (ceM tc ad) A (MQ below (va_Qi (fun (r : Int32) (u : Mem) => Qr r u) (WdO D vwCl idsM ad (ceM tc ad) A) A) ([.ref (ad (0, 0, 0))] : List Value).toArray s 0 0 A) 4 4 [(0, .ref (ad (0, 0, 0))), (1, .int 1), (2, .int x2_1)] [] τ1 := by
    intro n
    induction n with
    | zero => intro x2_1 τ1 hμ _; exact absurd hμ (Nat.not_lt_zero _)
    | succ n ihn =>
      intro x2_1 τ1 hμ4 hJ
      have ih4 := ihn
      replace hJ := hst4 x2_1 τ1 hJ
      refine V_iload_n C dX6_isPossible_4 2 rfl ?_
      refine V_aload_n C dX6_isPossible_5 0 rfl ?_
      refine V_get (ci := 6) C okM_0 uX6 rfl 0 (Nat.le_of_ble_eq_true rfl) rfl rfl f7 dX6_isPossible_6 ?_
      refine V_iconst (v := 1) C dX6_isPossible_9 ci_1 ?_
      refine V_iald C okM_1 0 rfl rfl ix_1 vpc_1_214 dX6_isPossible_10 ?_
      obtain ⟨hJt, hJf⟩ := hJ
      refine V_icmp_ge C (tgt := 27) dX6_isPossible_11 rfl (fun hc2 => ?_) (fun hc2 => ?_)
      · have hJ := hJt hc2; clear hJt hJf
        refine V_iconst (v := 0) C dX6_isPossible_27 ci_0 ?_
        refine V_istore_n (lv' := [(2, .int 0), (0, .ref (ad (0, 0, 0))), (1, .int 1)]) C dX6_isPossible_28 (by decide) rfl ?_
        refine V_sub (lv' := [(0, .ref (ad (0, 0, 0))), (1, .int 1), (2, .int 0)]) [1, 2, 0] rfl ?_
        obtain ⟨I29, μ29, hI29, hst29⟩ := hJ
        have L29 : ∀ (n : Nat) (x2_3 : Int32) (τ3 : Mem), μ29 x2_3 τ3 < n → I29 x2_3 τ3 → VV p l e (headSpec wsX6_isPossible ({ frames := 1, cells := 0, slots := 0, locals := 20 })).room s m ([.ref (ad (0, 0, 0))] : List Value).toArray below meth c D vwCl idsM ad (ceM tc ad) A (MQ below (va_Qi (fun (r : Int32) (u : Mem) => Qr r u) (WdO D vwCl idsM ad (ceM tc ad) A) A) ([.ref (ad (0, 0, 0))] : List Value).toArray s 0 0 A) 4 29 [(0, .ref (ad (0, 0, 0))), (1, .int 1), (2, .int x2_3)] [] τ3 := by
          intro n
          induction n with
          | zero => intro x2_3 τ3 hμ _; exact absurd hμ (Nat.not_lt_zero _)
          | succ n ihn =>
            intro x2_3 τ3 hμ29 hJ
            have ih29 := ihn
            replace hJ := hst29 x2_3 τ3 hJ
            refine V_iload_n C dX6_isPossible_29 2 rfl ?_
            refine V_aload_n C dX6_isPossible_30 0 rfl ?_
            refine V_get (ci := 6) C okM_0 uX6 rfl 0 (Nat.le_of_ble_eq_true rfl) rfl rfl f7 dX6_isPossible_31 ?_
            refine V_iconst (v := 2) C dX6_isPossible_34 ci_2 ?_
            refine V_iald C okM_1 0 rfl rfl ix_2 vpc_2_214 dX6_isPossible_35 ?_
            obtain ⟨hJt, hJf⟩ := hJ
            refine V_icmp_ge C (tgt := 68) dX6_isPossible_36 rfl (fun hc4 => ?_) (fun hc4 => ?_)
            · have hJ := hJt hc4; clear hJt hJf
              refine V_aload_n C dX6_isPossible_68 0 rfl ?_
              refine V_get (ci := 6) C okM_0 uX6 rfl 0 (Nat.le_of_ble_eq_true rfl) rfl rfl f7 dX6_isPossible_69 ?_
              refine V_iconst (v := 1) C dX6_isPossible_72 ci_1 ?_
              refine V_iald C okM_1 0 rfl rfl ix_1 vpc_1_214 dX6_isPossible_73 ?_
              refine V_iconst (v := 1) C dX6_isPossible_74 ci_1 ?_
              refine V_isub C dX6_isPossible_75 ?_
              refine V_topi (fun x2_5 hx2_5 => ?_)
              replace hJ := hJ x2_5 hx2_5
              refine V_istore_n (lv' := [(2, .int x2_5), (0, .ref (ad (0, 0, 0))), (1, .int 1)]) C dX6_isPossible_76 (by decide) rfl ?_
              refine V_sub (lv' := [(0, .ref (ad (0, 0, 0))), (1, .int 1), (2, .int x2_5)]) [1, 2, 0] rfl ?_
              obtain ⟨I77, μ77, hI77, hst77⟩ := hJ
              have L77 : ∀ (n : Nat) (x1_6 : Int32) (x2_6 : Int32) (τ6 : Mem), μ77 x1_6 x2_6 τ6 < n → I77 x1_6 x2_6 τ6 → VV p l e (headSpec wsX6_isPossible ({ frames := 1, cells := 0, slots := 0, locals := 20 })).room s m ([.ref (ad (0, 0, 0))] : List Value).toArray below meth c D vwCl idsM ad (ceM tc ad) A (MQ below (va_Qi (fun (r : Int32) (u : Mem) => Qr r u) (WdO D vwCl idsM ad (ceM tc ad) A) A) ([.ref (ad (0, 0, 0))] : List Value).toArray s 0 0 A) 4 77 [(0, .ref (ad (0, 0, 0))), (1, .int x1_6), (2, .int x2_6)] [] τ6 := by
                intro n
                induction n with
                | zero => intro x1_6 x2_6 τ6 hμ _; exact absurd hμ (Nat.not_lt_zero _)
                | succ n ihn =>
                  intro x1_6 x2_6 τ6 hμ77 hJ
                  have ih77 := ihn
                  replace hJ := hst77 x1_6 x2_6 τ6 hJ
                  have B142 : ∀ (b2 : Int32) (t0 : Int32) (τ : Mem), J_X6_isPossible_b142  (fun z0 z1 => I4 z0 z1 ∧ μ4 z0 z1 < μ4 x2_1 τ1) (fun z0 z1 => I29 z0 z1 ∧ μ29 z0 z1 < μ29 x2_3 τ3) (fun z0 z1 z2 => I77 z0 z1 z2 ∧ μ77 z0 z1 z2 < μ77 x1_6 x2_6 τ6) b2 t0 τ Qr → VV p l e (headSpec wsX6_isPossible ({ frames := 1, cells := 0, slots := 0, locals := 20 })).room s m ([.ref (ad (0, 0, 0))] : List Value).toArray below meth c D vwCl idsM ad (ceM tc ad) A (MQ below (va_Qi (fun (r : Int32) (u : Mem) => Qr r u) (WdO D vwCl idsM ad (ceM tc ad) A) A) ([.ref (ad (0, 0, 0))] : List Value).toArray s 0 0 A) 4 142 [(0, .ref (ad (0, 0, 0))), (2, .int b2)] [.int t0] τ := by
                    intro b2 t0 τ hJ
                    unfold J_X6_isPossible_b142 at hJ
                    refine V_istore_n (lv' := [(1, .int t0), (0, .ref (ad (0, 0, 0))), (2, .int b2)]) C dX6_isPossible_142 (by decide) rfl ?_
                    refine V_iload_n C dX6_isPossible_143 2 rfl ?_
                    obtain ⟨hJt, hJf⟩ := hJ
                    refine V_if_le C (tgt := 170) dX6_isPossible_144 rfl (fun hc19 => ?_) (fun hc19 => ?_)
                    · have hJ := hJt hc19; clear hJt hJf
                      obtain ⟨x2_20, hx2_20⟩ : ∃ y : Int32, y = b2 + (-1) := ⟨_, rfl⟩
                      replace hJ := hJ x2_20 hx2_20
                      refine V_iinc (v := x2_20) (lv' := [(2, .int x2_20), (1, .int t0), (0, .ref (ad (0, 0, 0)))]) C dX6_isPossible_170 2 rfl (by rw [hx2_20]; exact congrArg _ ci_m1) (by decide) rfl ?_
                      refine V_goto C (tgt := 77) dX6_isPossible_173 rfl ?_
                      refine V_sub (lv' := [(0, .ref (ad (0, 0, 0))), (1, .int t0), (2, .int x2_20)]) [2, 1, 0] rfl ?_
                      exact ih77 t0 x2_20 τ (Nat.lt_of_lt_of_le hJ.2 (Nat.le_of_lt_succ hμ77)) hJ.1
                    · have hJ := hJf hc19; clear hJt hJf
                      refine V_aload_n C dX6_isPossible_147 1 rfl ?_
                      refine V_get (ci := 6) C okM_0 uX6 rfl 9 (Nat.le_of_ble_eq_true rfl) rfl rfl f35 dX6_isPossible_148 ?_
                      refine V_aload_n C dX6_isPossible_151 1 rfl ?_
                      refine V_get (ci := 6) C okM_0 uX6 rfl 0 (Nat.le_of_ble_eq_true rfl) rfl rfl f7 dX6_isPossible_152 ?_
                      refine V_bipush (v := 40) C dX6_isPossible_155 cb_40 ?_
                      refine V_iload_n C dX6_isPossible_157 2 rfl ?_
                      refine V_iadd C dX6_isPossible_158 ?_
                      obtain ⟨hv21, hJ⟩ := hJ
                      refine V_iald C okM_1 0 rfl rfl rfl hv21 dX6_isPossible_159 ?_
                      refine V_dup2 C dX6_isPossible_160 rfl rfl ?_
                      obtain ⟨hv22, hJ⟩ := hJ
                      refine V_iald C okM_9 0 rfl rfl rfl hv22 dX6_isPossible_161 ?_
                      refine V_aload_n C dX6_isPossible_162 1 rfl ?_
                      refine V_get (ci := 6) C okM_0 uX6 rfl 8 (Nat.le_of_ble_eq_true rfl) rfl rfl f32 dX6_isPossible_163 ?_
                      refine V_iload_n C dX6_isPossible_166 2 rfl ?_
                      obtain ⟨hv23, hJ⟩ := hJ
                      refine V_iald C okM_8 0 rfl rfl rfl hv23 dX6_isPossible_167 ?_
                      refine V_iadd C dX6_isPossible_168 ?_
                      obtain ⟨hv24, hJ⟩ := hJ
                      refine V_iast C okM_9 0 rfl (fun _ => rfl) rfl hv24 dX6_isPossible_169 (fun τ25 hτ25 => ?_)
                      replace hJ := hJ τ25 hτ25
                      obtain ⟨x2_26, hx2_26⟩ : ∃ y : Int32, y = b2 + (-1) := ⟨_, rfl⟩
                      replace hJ := hJ x2_26 hx2_26
                      refine V_iinc (v := x2_26) (lv' := [(2, .int x2_26), (1, .int t0), (0, .ref (ad (0, 0, 0)))]) C dX6_isPossible_170 2 rfl (by rw [hx2_26]; exact congrArg _ ci_m1) (by decide) rfl ?_
                      refine V_goto C (tgt := 77) dX6_isPossible_173 rfl ?_
                      refine V_sub (lv' := [(0, .ref (ad (0, 0, 0))), (1, .int t0), (2, .int x2_26)]) [2, 1, 0] rfl ?_
                      exact ih77 t0 x2_26 τ25 (Nat.lt_of_lt_of_le hJ.2 (Nat.le_of_lt_succ hμ77)) hJ.1
                  refine V_iload_n C dX6_isPossible_77 2 rfl ?_
                  obtain ⟨hJt, hJf⟩ := hJ
                  refine V_if_lt C (tgt := 176) dX6_isPossible_78 rfl (fun hc7 => ?_) (fun hc7 => ?_)
                  · have hJ := hJt hc7; clear hJt hJf
                    refine V_iload_n C dX6_isPossible_176 1 rfl ?_
                    obtain ⟨hJt, hJf⟩ := hJ
                    refine V_if_eq C (tgt := 205) dX6_isPossible_177 rfl (fun hc8 => ?_) (fun hc8 => ?_)
                    · have hJ := hJt hc8; clear hJt hJf
                      refine V_iconst (v := 0) C dX6_isPossible_205 ci_0 ?_
                      exact V_zret C hr hlocks (Or.inl rfl) dX6_isPossible_206 hJ
                    · have hJ := hJf hc8; clear hJt hJf
                      refine V_aload_n C dX6_isPossible_180 0 rfl ?_
                      refine V_get (ci := 6) C okM_0 uX6 rfl 8 (Nat.le_of_ble_eq_true rfl) rfl rfl f32 dX6_isPossible_181 ?_
                      refine V_iconst (v := 0) C dX6_isPossible_184 ci_0 ?_
                      refine V_iald C okM_8 0 rfl rfl ix_0 vpc_0_10 dX6_isPossible_185 ?_
                      refine V_aload_n C dX6_isPossible_186 0 rfl ?_
                      refine V_get (ci := 6) C okM_0 uX6 rfl 0 (Nat.le_of_ble_eq_true rfl) rfl rfl f7 dX6_isPossible_187 ?_
                      refine V_bipush (v := 12) C dX6_isPossible_190 cb_12 ?_
                      refine V_aload_n C dX6_isPossible_192 0 rfl ?_
                      refine V_cVi (st := [.int 12, .ref (ad (1, 0, 0)), .int (τ6 (8, 0, 0) 0)]) (ci := 6) C okM_0 (M_X6_hour l D tc ad A  hJ) (cwV 0 C.1.2.2.2.2 gX6_isPossible_X6_hour rfl rfl rfl (by decide +kernel) ⟨Nat.le_of_ble_eq_true rfl, Nat.le_of_ble_eq_true rfl⟩) rfl rfl rfl rfl (Nat.le_of_ble_eq_true rfl) dX6_isPossible_193 (fun r9 τ9 hJ => ?_)
                      refine V_iadd C dX6_isPossible_196 ?_
                      obtain ⟨hv10, hJ⟩ := hJ
                      refine V_iald C okM_1 0 rfl rfl rfl hv10 dX6_isPossible_197 ?_
                      obtain ⟨hJt, hJf⟩ := hJ
                      refine V_icmp_gt C (tgt := 205) dX6_isPossible_198 rfl (fun hc11 => ?_) (fun hc11 => ?_)
                      · have hJ := hJt hc11; clear hJt hJf
                        refine V_iconst (v := 0) C dX6_isPossible_205 ci_0 ?_
                        exact V_zret C hr hlocks (Or.inl rfl) dX6_isPossible_206 hJ
                      · have hJ := hJf hc11; clear hJt hJf
                        refine V_iconst (v := 1) C dX6_isPossible_201 ci_1 ?_
                        refine V_goto C (tgt := 206) dX6_isPossible_202 rfl ?_
                        exact V_zret C hr hlocks (Or.inr rfl) dX6_isPossible_206 hJ
                  · have hJ := hJf hc7; clear hJt hJf
                    refine V_bipush (v := 100) C dX6_isPossible_81 cb_100 ?_
                    refine V_aload_n C dX6_isPossible_83 0 rfl ?_
                    refine V_get (ci := 6) C okM_0 uX6 rfl 0 (Nat.le_of_ble_eq_true rfl) rfl rfl f7 dX6_isPossible_84 ?_
                    refine V_bipush (v := 60) C dX6_isPossible_87 cb_60 ?_
                    refine V_iload_n C dX6_isPossible_89 2 rfl ?_
                    refine V_iadd C dX6_isPossible_90 ?_
                    obtain ⟨hv12, hJ⟩ := hJ
                    refine V_iald C okM_1 0 rfl rfl rfl hv12 dX6_isPossible_91 ?_
                    refine V_isub C dX6_isPossible_92 ?_
                    refine V_topi (fun x3_13 hx3_13 => ?_)
                    replace hJ := hJ x3_13 hx3_13
                    refine V_istore_n (lv' := [(3, .int x3_13), (0, .ref (ad (0, 0, 0))), (1, .int x1_6), (2, .int x2_6)]) C dX6_isPossible_93 (by decide) rfl ?_
                    refine V_aload_n C dX6_isPossible_94 1 rfl ?_
                    refine V_get (ci := 6) C okM_0 uX6 rfl 8 (Nat.le_of_ble_eq_true rfl) rfl rfl f32 dX6_isPossible_95 ?_
                    refine V_iload_n C dX6_isPossible_98 3 rfl ?_
                    refine V_bipush (v := 100) C dX6_isPossible_99 cb_100 ?_
                    refine V_aload_n C dX6_isPossible_101 1 rfl ?_
                    refine V_get (ci := 6) C okM_0 uX6 rfl 9 (Nat.le_of_ble_eq_true rfl) rfl rfl f35 dX6_isPossible_102 ?_
                    refine V_iload_n C dX6_isPossible_105 3 rfl ?_
                    obtain ⟨hv14, hJ⟩ := hJ
                    refine V_iald C okM_9 0 rfl rfl rfl hv14 dX6_isPossible_106 ?_
                    refine V_imul C dX6_isPossible_107 ?_
                    refine V_iload_n C dX6_isPossible_108 0 rfl ?_
                    refine V_iadd C dX6_isPossible_109 ?_
                    refine V_iconst (v := 1) C dX6_isPossible_110 ci_1 ?_
                    refine V_isub C dX6_isPossible_111 ?_
                    refine V_iload_n C dX6_isPossible_112 0 rfl ?_
                    obtain ⟨hz15, hJ⟩ := hJ
                    refine V_idiv C dX6_isPossible_113 hz15 ?_
                    obtain ⟨hv16, hJ⟩ := hJ
                    refine V_iast C okM_8 0 rfl (fun _ => rfl) rfl hv16 dX6_isPossible_114 (fun τ17 hτ17 => ?_)
                    replace hJ := hJ τ17 hτ17
                    refine V_iload_n C dX6_isPossible_115 2 rfl ?_
                    obtain ⟨hJt, hJf⟩ := hJ
                    refine V_if_eq C (tgt := 141) dX6_isPossible_116 rfl (fun hc18 => ?_) (fun hc18 => ?_)
                    · have hJ := hJt hc18; clear hJt hJf
                      refine V_iconst (v := 0) C dX6_isPossible_141 ci_0 ?_
                      refine V_sub (lv' := [(0, .ref (ad (0, 0, 0))), (2, .int x2_6)]) [1, 3] rfl ?_
                      exact B142 x2_6 0 τ17 hJ
                    · have hJ := hJf hc18; clear hJt hJf
                      refine V_aload_n C dX6_isPossible_119 1 rfl ?_
                      refine V_get (ci := 6) C okM_0 uX6 rfl 8 (Nat.le_of_ble_eq_true rfl) rfl rfl f32 dX6_isPossible_120 ?_
                      refine V_iload_n C dX6_isPossible_123 3 rfl ?_
                      obtain ⟨hv27, hJ⟩ := hJ
                      refine V_iald C okM_8 0 rfl rfl rfl hv27 dX6_isPossible_124 ?_
                      refine V_aload_n C dX6_isPossible_125 1 rfl ?_
                      refine V_get (ci := 6) C okM_0 uX6 rfl 0 (Nat.le_of_ble_eq_true rfl) rfl rfl f7 dX6_isPossible_126 ?_
                      refine V_bipush (v := 50) C dX6_isPossible_129 cb_50 ?_
                      refine V_iload_n C dX6_isPossible_131 3 rfl ?_
                      refine V_iadd C dX6_isPossible_132 ?_
                      obtain ⟨hv28, hJ⟩ := hJ
                      refine V_iald C okM_1 0 rfl rfl rfl hv28 dX6_isPossible_133 ?_
                      obtain ⟨hJt, hJf⟩ := hJ
                      refine V_icmp_gt C (tgt := 141) dX6_isPossible_134 rfl (fun hc29 => ?_) (fun hc29 => ?_)
                      · have hJ := hJt hc29; clear hJt hJf
                        refine V_iconst (v := 0) C dX6_isPossible_141 ci_0 ?_
                        refine V_sub (lv' := [(0, .ref (ad (0, 0, 0))), (2, .int x2_6)]) [1, 3] rfl ?_
                        exact B142 x2_6 0 τ17 hJ
                      · have hJ := hJf hc29; clear hJt hJf
                        refine V_iconst (v := 1) C dX6_isPossible_137 ci_1 ?_
                        refine V_goto C (tgt := 142) dX6_isPossible_138 rfl ?_
                        refine V_sub (lv' := [(0, .ref (ad (0, 0, 0))), (2, .int x2_6)]) [1, 3] rfl ?_
                        exact B142 x2_6 1 τ17 hJ
              exact L77 _ 1 x2_5 τ3 (Nat.lt_succ_self _) hI77
            · have hJ := hJf hc4; clear hJt hJf
              refine V_aload_n C dX6_isPossible_39 0 rfl ?_
              refine V_get (ci := 6) C okM_0 uX6 rfl 9 (Nat.le_of_ble_eq_true rfl) rfl rfl f35 dX6_isPossible_40 ?_
              refine V_aload_n C dX6_isPossible_43 0 rfl ?_
              refine V_get (ci := 6) C okM_0 uX6 rfl 0 (Nat.le_of_ble_eq_true rfl) rfl rfl f7 dX6_isPossible_44 ?_
              refine V_bipush (v := 70) C dX6_isPossible_47 cb_70 ?_
              refine V_iload_n C dX6_isPossible_49 2 rfl ?_
              refine V_iadd C dX6_isPossible_50 ?_
              obtain ⟨hv30, hJ⟩ := hJ
              refine V_iald C okM_1 0 rfl rfl rfl hv30 dX6_isPossible_51 ?_
              refine V_dup2 C dX6_isPossible_52 rfl rfl ?_
              obtain ⟨hv31, hJ⟩ := hJ
              refine V_iald C okM_9 0 rfl rfl rfl hv31 dX6_isPossible_53 ?_
              refine V_aload_n C dX6_isPossible_54 0 rfl ?_
              refine V_get (ci := 6) C okM_0 uX6 rfl 7 (Nat.le_of_ble_eq_true rfl) rfl rfl f29 dX6_isPossible_55 ?_
              refine V_iload_n C dX6_isPossible_58 2 rfl ?_
              obtain ⟨hv32, hJ⟩ := hJ
              refine V_iald C okM_7 0 rfl rfl rfl hv32 dX6_isPossible_59 ?_
              refine V_iadd C dX6_isPossible_60 ?_
              obtain ⟨hv33, hJ⟩ := hJ
              refine V_iast C okM_9 0 rfl (fun _ => rfl) rfl hv33 dX6_isPossible_61 (fun τ34 hτ34 => ?_)
              replace hJ := hJ τ34 hτ34
              obtain ⟨x2_35, hx2_35⟩ : ∃ y : Int32, y = x2_3 + 1 := ⟨_, rfl⟩
              replace hJ := hJ x2_35 hx2_35
              refine V_iinc (v := x2_35) (lv' := [(2, .int x2_35), (0, .ref (ad (0, 0, 0))), (1, .int 1)]) C dX6_isPossible_62 2 rfl (by rw [hx2_35]; exact congrArg _ ci_1) (by decide) rfl ?_
              refine V_goto C (tgt := 29) dX6_isPossible_65 rfl ?_
              refine V_sub (lv' := [(0, .ref (ad (0, 0, 0))), (1, .int 1), (2, .int x2_35)]) [1, 2, 0] rfl ?_
              exact ih29 x2_35 τ34 (Nat.lt_of_lt_of_le hJ.2 (Nat.le_of_lt_succ hμ29)) hJ.1
        exact L29 _ 0 τ1 (Nat.lt_succ_self _) hI29
      · have hJ := hJf hc2; clear hJt hJf
        refine V_aload_n C dX6_isPossible_14 0 rfl ?_
        refine V_get (ci := 6) C okM_0 uX6 rfl 9 (Nat.le_of_ble_eq_true rfl) rfl rfl f35 dX6_isPossible_15 ?_
        refine V_iload_n C dX6_isPossible_18 2 rfl ?_
        refine V_iconst (v := 0) C dX6_isPossible_19 ci_0 ?_
        obtain ⟨hv36, hJ⟩ := hJ
        refine V_iast C okM_9 0 rfl (fun _ => rfl) rfl hv36 dX6_isPossible_20 (fun τ37 hτ37 => ?_)
        replace hJ := hJ τ37 hτ37
        obtain ⟨x2_38, hx2_38⟩ : ∃ y : Int32, y = x2_1 + 1 := ⟨_, rfl⟩
        replace hJ := hJ x2_38 hx2_38
        refine V_iinc (v := x2_38) (lv' := [(2, .int x2_38), (0, .ref (ad (0, 0, 0))), (1, .int 1)]) C dX6_isPossible_21 2 rfl (by rw [hx2_38]; exact congrArg _ ci_1) (by decide) rfl ?_
        refine V_goto C (tgt := 4) dX6_isPossible_24 rfl ?_
        refine V_sub (lv' := [(0, .ref (ad (0, 0, 0))), (1, .int 1), (2, .int x2_38)]) [1, 2, 0] rfl ?_
        exact ih4 x2_38 τ37 (Nat.lt_of_lt_of_le hJ.2 (Nat.le_of_lt_succ hμ4)) hJ.1
  exact L4 _ 0 σ (Nat.lt_succ_self _) hI4
set_option maxHeartbeats 4000000 in
set_option maxRecDepth 100000 in
theorem M_X6_proportions (l : Launch) (D : va_G) (tc : Nat → ClassId) (ad : Oid → Nat) (A : Nat → Prop) {σ : Mem} {Qr : Mem → Prop} (hJ : J_X6_proportions σ Qr) : Met l yX6_proportions wsX6_proportions ({ frames := 2, cells := 0, slots := 0, locals := 43 }) (va_Pc [.ref (ad (0, 0, 0))] (WdI D vwCl (tysX tc) idsM ad (ceM tc ad) A σ)) (va_Qv (fun (u : Mem) => Qr u) (WdO D vwCl idsM ad (ceM tc ad) A) A) 0 0 A := by
  refine V_metv (cc := cX6_proportions) (nL := 4) (ret := none) (own := RX6) rfl (plainFor_of_name (by decide)) rfl rfl (Nat.le_of_ble_eq_true rfl) ?_
  intro p e s m below meth c C hr hlocks
  refine V_sub (lv' := [(0, .ref (ad (0, 0, 0)))]) [0] rfl ?_
  have f7 : Cond.fieldLink RX6 7 (TX6 0).1 (TX6 0).2.1 (TX6 0).2.2.1 ∈ wsX6_proportions := List.mem_of_getElem? (i := 1) rfl
  have uX6 : ∀ w ∈ u_ws RX6 TX6 12, w ∈ wsX6_proportions := by decide +kernel
  have f29 : Cond.fieldLink RX6 29 (TX6 7).1 (TX6 7).2.1 (TX6 7).2.2.1 ∈ wsX6_proportions := List.mem_of_getElem? (i := 2) rfl
  have f26 : Cond.fieldLink RX6 26 (TX6 6).1 (TX6 6).2.1 (TX6 6).2.2.1 ∈ wsX6_proportions := List.mem_of_getElem? (i := 3) rfl
  unfold J_X6_proportions at hJ
  refine V_bipush (v := 100) C dX6_proportions_0 cb_100 ?_
  refine V_istore_n (lv' := [(1, .int 100), (0, .ref (ad (0, 0, 0)))]) C dX6_proportions_2 (by decide) rfl ?_
  refine V_iconst (v := 0) C dX6_proportions_3 ci_0 ?_
  refine V_istore_n (lv' := [(2, .int 0), (1, .int 100), (0, .ref (ad (0, 0, 0)))]) C dX6_proportions_4 (by decide) rfl ?_
  refine V_sub (lv' := [(0, .ref (ad (0, 0, 0))), (1, .int 100), (2, .int 0)]) [2, 1, 0] rfl ?_
  obtain ⟨I5, μ5, hI5, hst5⟩ := hJ
  have L5 : ∀ (n : Nat) (x1_1 : Int32) (x2_1 : Int32) (τ1 : Mem), μ5 x1_1 x2_1 τ1 < n → I5 x1_1 x2_1 τ1 → VV p l e (headSpec wsX6_proportions ({ frames := 2, cells := 0, slots := 0, locals := 43 })).room s m ([.ref (ad (0, 0, 0))] : List Value).toArray below meth c D vwCl idsM ad (ceM tc ad) A (MQ below (va_Qv (fun (u : Mem) => Qr u) (WdO D vwCl idsM ad (ceM tc ad) A) A) ([.ref (ad (0, 0, 0))] : List Value).toArray s 0 0 A) 4 5 [(0, .ref (ad (0, 0, 0))), (1, .int x1_1), (2, .int x2_1)] [] τ1 := by
    intro n
    induction n with
    | zero => intro x1_1 x2_1 τ1 hμ _; exact absurd hμ (Nat.not_lt_zero _)
    | succ n ihn =>
      intro x1_1 x2_1 τ1 hμ5 hJ
      have ih5 := ihn
      replace hJ := hst5 x1_1 x2_1 τ1 hJ
      refine V_iload_n C dX6_proportions_5 2 rfl ?_
      obtain ⟨hJt, hJf⟩ := hJ
      refine V_if_ne C (tgt := 55) dX6_proportions_6 rfl (fun hc2 => ?_) (fun hc2 => ?_)
      · have hJ := hJt hc2; clear hJt hJf
        exact V_vret C hr hlocks dX6_proportions_55 hJ
      · have hJ := hJf hc2; clear hJt hJf
        refine V_iconst (v := 0) C dX6_proportions_9 ci_0 ?_
        refine V_istore_n (lv' := [(3, .int 0), (0, .ref (ad (0, 0, 0))), (1, .int x1_1), (2, .int x2_1)]) C dX6_proportions_10 (by decide) rfl ?_
        refine V_sub (lv' := [(0, .ref (ad (0, 0, 0))), (1, .int x1_1), (3, .int 0)]) [1, 2, 0] rfl ?_
        obtain ⟨I11, μ11, hI11, hst11⟩ := hJ
        have L11 : ∀ (n : Nat) (x3_3 : Int32) (τ3 : Mem), μ11 x3_3 τ3 < n → I11 x3_3 τ3 → VV p l e (headSpec wsX6_proportions ({ frames := 2, cells := 0, slots := 0, locals := 43 })).room s m ([.ref (ad (0, 0, 0))] : List Value).toArray below meth c D vwCl idsM ad (ceM tc ad) A (MQ below (va_Qv (fun (u : Mem) => Qr u) (WdO D vwCl idsM ad (ceM tc ad) A) A) ([.ref (ad (0, 0, 0))] : List Value).toArray s 0 0 A) 4 11 [(0, .ref (ad (0, 0, 0))), (1, .int x1_1), (3, .int x3_3)] [] τ3 := by
          intro n
          induction n with
          | zero => intro x3_3 τ3 hμ _; exact absurd hμ (Nat.not_lt_zero _)
          | succ n ihn =>
            intro x3_3 τ3 hμ11 hJ
            have ih11 := ihn
            replace hJ := hst11 x3_3 τ3 hJ
            refine V_iload_n C dX6_proportions_11 2 rfl ?_
            refine V_aload_n C dX6_proportions_12 0 rfl ?_
            refine V_get (ci := 6) C okM_0 uX6 rfl 0 (Nat.le_of_ble_eq_true rfl) rfl rfl f7 dX6_proportions_13 ?_
            refine V_iconst (v := 2) C dX6_proportions_16 ci_2 ?_
            refine V_iald C okM_1 0 rfl rfl ix_2 vpc_2_214 dX6_proportions_17 ?_
            obtain ⟨hJt, hJf⟩ := hJ
            refine V_icmp_ge C (tgt := 44) dX6_proportions_18 rfl (fun hc4 => ?_) (fun hc4 => ?_)
            · have hJ := hJt hc4; clear hJt hJf
              refine V_aload_n C dX6_proportions_44 0 rfl ?_
              refine V_cVi (st := []) (ci := 6) C okM_0 (M_X6_isPossible l D tc ad A  hJ) (cwV 0 C.1.2.2.2.2 gX6_proportions_X6_isPossible rfl rfl rfl (by decide +kernel) ⟨Nat.le_of_ble_eq_true rfl, Nat.le_of_ble_eq_true rfl⟩) rfl rfl rfl rfl (Nat.le_of_ble_eq_true rfl) dX6_proportions_45 (fun r5 τ5 hJ => ?_)
              refine V_istore_n (lv' := [(2, .int r5), (0, .ref (ad (0, 0, 0))), (1, .int x1_1), (3, .int x3_3)]) C dX6_proportions_48 (by decide) rfl ?_
              obtain ⟨x1_6, hx1_6⟩ : ∃ y : Int32, y = x1_1 + (-1) := ⟨_, rfl⟩
              replace hJ := hJ x1_6 hx1_6
              refine V_iinc (v := x1_6) (lv' := [(1, .int x1_6), (2, .int r5), (0, .ref (ad (0, 0, 0))), (3, .int x3_3)]) C dX6_proportions_49 2 rfl (by rw [hx1_6]; exact congrArg _ ci_m1) (by decide) rfl ?_
              refine V_goto C (tgt := 5) dX6_proportions_52 rfl ?_
              refine V_sub (lv' := [(0, .ref (ad (0, 0, 0))), (1, .int x1_6), (2, .int r5)]) [2, 0, 1] rfl ?_
              exact ih5 x1_6 r5 τ5 (Nat.lt_of_lt_of_le hJ.2 (Nat.le_of_lt_succ hμ5)) hJ.1
            · have hJ := hJf hc4; clear hJt hJf
              refine V_aload_n C dX6_proportions_21 0 rfl ?_
              refine V_get (ci := 6) C okM_0 uX6 rfl 7 (Nat.le_of_ble_eq_true rfl) rfl rfl f29 dX6_proportions_22 ?_
              refine V_iload_n C dX6_proportions_25 2 rfl ?_
              refine V_aload_n C dX6_proportions_26 0 rfl ?_
              refine V_get (ci := 6) C okM_0 uX6 rfl 6 (Nat.le_of_ble_eq_true rfl) rfl rfl f26 dX6_proportions_27 ?_
              refine V_iload_n C dX6_proportions_30 2 rfl ?_
              obtain ⟨hv7, hJ⟩ := hJ
              refine V_iald C okM_6 0 rfl rfl rfl hv7 dX6_proportions_31 ?_
              refine V_iload_n C dX6_proportions_32 1 rfl ?_
              refine V_imul C dX6_proportions_33 ?_
              refine V_bipush (v := 100) C dX6_proportions_34 cb_100 ?_
              refine V_idiv C dX6_proportions_36 (by decide) ?_
              obtain ⟨hv8, hJ⟩ := hJ
              refine V_iast C okM_7 0 rfl (fun _ => rfl) rfl hv8 dX6_proportions_37 (fun τ9 hτ9 => ?_)
              replace hJ := hJ τ9 hτ9
              obtain ⟨x3_10, hx3_10⟩ : ∃ y : Int32, y = x3_3 + 1 := ⟨_, rfl⟩
              replace hJ := hJ x3_10 hx3_10
              refine V_iinc (v := x3_10) (lv' := [(3, .int x3_10), (0, .ref (ad (0, 0, 0))), (1, .int x1_1)]) C dX6_proportions_38 2 rfl (by rw [hx3_10]; exact congrArg _ ci_1) (by decide) rfl ?_
              refine V_goto C (tgt := 11) dX6_proportions_41 rfl ?_
              refine V_sub (lv' := [(0, .ref (ad (0, 0, 0))), (1, .int x1_1), (3, .int x3_10)]) [1, 2, 0] rfl ?_
              exact ih11 x3_10 τ9 (Nat.lt_of_lt_of_le hJ.2 (Nat.le_of_lt_succ hμ11)) hJ.1
        exact L11 _ 0 τ1 (Nat.lt_succ_self _) hI11
  exact L5 _ 100 0 σ (Nat.lt_succ_self _) hI5
set_option maxHeartbeats 4000000 in
set_option maxRecDepth 100000 in
theorem M_X6_serves (l : Launch) (D : va_G) (tc : Nat → ClassId) (ad : Oid → Nat) (A : Nat → Prop) (x1 : Int32) {σ : Mem} {Qr : Mem → Prop} (hJ : J_X6_serves x1 σ Qr) : Met l yX6_serves wsX6_serves ({ frames := 2, cells := 0, slots := 0, locals := 43 }) (va_Pc [.ref (ad (0, 0, 0)), .int x1] (WdI D vwCl (tysX tc) idsM ad (ceM tc ad) A σ)) (va_Qv (fun (u : Mem) => Qr u) (WdO D vwCl idsM ad (ceM tc ad) A) A) 0 0 A := by
  refine V_metv (cc := cX6_serves) (nL := 3) (ret := none) (own := RX6) rfl (plainFor_of_name (by decide)) rfl rfl (Nat.le_of_ble_eq_true rfl) ?_
  intro p e s m below meth c C hr hlocks
  refine V_sub (lv' := [(0, .ref (ad (0, 0, 0))), (1, .int x1)]) [0, 1] rfl ?_
  have f29 : Cond.fieldLink RX6 29 (TX6 7).1 (TX6 7).2.1 (TX6 7).2.2.1 ∈ wsX6_serves := List.mem_of_getElem? (i := 1) rfl
  have uX6 : ∀ w ∈ u_ws RX6 TX6 12, w ∈ wsX6_serves := by decide +kernel
  have f26 : Cond.fieldLink RX6 26 (TX6 6).1 (TX6 6).2.1 (TX6 6).2.2.1 ∈ wsX6_serves := List.mem_of_getElem? (i := 2) rfl
  have B32 : ∀ (b1 : Int32) (b2 : Int32) (t0 : Int32) (t1 : Int32) (τ : Mem), J_X6_serves_b32 x1  b1 b2 t0 t1 τ Qr → VV p l e (headSpec wsX6_serves ({ frames := 2, cells := 0, slots := 0, locals := 43 })).room s m ([.ref (ad (0, 0, 0)), .int x1] : List Value).toArray below meth c D vwCl idsM ad (ceM tc ad) A (MQ below (va_Qv (fun (u : Mem) => Qr u) (WdO D vwCl idsM ad (ceM tc ad) A) A) ([.ref (ad (0, 0, 0)), .int x1] : List Value).toArray s 0 0 A) 3 32 [(0, .ref (ad (0, 0, 0))), (1, .int b1), (2, .int b2)] [.int t0, .int t1, .ref (ad (7, 0, 0))] τ := by
    intro b1 b2 t0 t1 τ hJ
    unfold J_X6_serves_b32 at hJ
    obtain ⟨hv5, hJ⟩ := hJ
    refine V_iast C okM_7 0 rfl (fun _ => rfl) rfl hv5 dX6_serves_32 (fun τ6 hτ6 => ?_)
    replace hJ := hJ τ6 hτ6
    obtain ⟨I33, μ33, hI33, hst33⟩ := hJ
    have L33 : ∀ (n : Nat) (τ7 : Mem), μ33 τ7 < n → I33 τ7 → VV p l e (headSpec wsX6_serves ({ frames := 2, cells := 0, slots := 0, locals := 43 })).room s m ([.ref (ad (0, 0, 0)), .int x1] : List Value).toArray below meth c D vwCl idsM ad (ceM tc ad) A (MQ below (va_Qv (fun (u : Mem) => Qr u) (WdO D vwCl idsM ad (ceM tc ad) A) A) ([.ref (ad (0, 0, 0)), .int x1] : List Value).toArray s 0 0 A) 3 33 [(0, .ref (ad (0, 0, 0))), (1, .int b1), (2, .int b2)] [] τ7 := by
      intro n
      induction n with
      | zero => intro τ7 hμ _; exact absurd hμ (Nat.not_lt_zero _)
      | succ n ihn =>
        intro τ7 hμ33 hJ
        have ih33 := ihn
        replace hJ := hst33 τ7 hJ
        refine V_aload_n C dX6_serves_33 0 rfl ?_
        refine V_get (ci := 6) C okM_0 uX6 rfl 7 (Nat.le_of_ble_eq_true rfl) rfl rfl f29 dX6_serves_34 ?_
        refine V_iload_n C dX6_serves_37 1 rfl ?_
        obtain ⟨hv8, hJ⟩ := hJ
        refine V_iald C okM_7 0 rfl rfl rfl hv8 dX6_serves_38 ?_
        refine V_iload_n C dX6_serves_39 2 rfl ?_
        obtain ⟨hJt, hJf⟩ := hJ
        refine V_icmp_le C (tgt := 63) dX6_serves_40 rfl (fun hc9 => ?_) (fun hc9 => ?_)
        · have hJ := hJt hc9; clear hJt hJf
          exact V_vret C hr hlocks dX6_serves_63 hJ
        · have hJ := hJf hc9; clear hJt hJf
          refine V_aload_n C dX6_serves_43 0 rfl ?_
          refine V_cVi (st := []) (ci := 6) C okM_0 (M_X6_isPossible l D tc ad A  hJ) (cwV 0 C.1.2.2.2.2 gX6_serves_X6_isPossible rfl rfl rfl (by decide +kernel) ⟨Nat.le_of_ble_eq_true rfl, Nat.le_of_ble_eq_true rfl⟩) rfl rfl rfl rfl (Nat.le_of_ble_eq_true rfl) dX6_serves_44 (fun r10 τ10 hJ => ?_)
          obtain ⟨hJt, hJf⟩ := hJ
          refine V_if_ne C (tgt := 63) dX6_serves_47 rfl (fun hc11 => ?_) (fun hc11 => ?_)
          · have hJ := hJt hc11; clear hJt hJf
            exact V_vret C hr hlocks dX6_serves_63 hJ
          · have hJ := hJf hc11; clear hJt hJf
            refine V_aload_n C dX6_serves_50 0 rfl ?_
            refine V_get (ci := 6) C okM_0 uX6 rfl 7 (Nat.le_of_ble_eq_true rfl) rfl rfl f29 dX6_serves_51 ?_
            refine V_iload_n C dX6_serves_54 1 rfl ?_
            refine V_dup2 C dX6_serves_55 rfl rfl ?_
            obtain ⟨hv12, hJ⟩ := hJ
            refine V_iald C okM_7 0 rfl rfl rfl hv12 dX6_serves_56 ?_
            refine V_iconst (v := 1) C dX6_serves_57 ci_1 ?_
            refine V_isub C dX6_serves_58 ?_
            obtain ⟨hv13, hJ⟩ := hJ
            refine V_iast C okM_7 0 rfl (fun _ => rfl) rfl hv13 dX6_serves_59 (fun τ14 hτ14 => ?_)
            replace hJ := hJ τ14 hτ14
            refine V_goto C (tgt := 33) dX6_serves_60 rfl ?_
            exact ih33 τ14 (Nat.lt_of_lt_of_le hJ.2 (Nat.le_of_lt_succ hμ33)) hJ.1
    exact L33 _ τ6 (Nat.lt_succ_self _) hI33
  unfold J_X6_serves at hJ
  refine V_aload_n C dX6_serves_0 0 rfl ?_
  refine V_get (ci := 6) C okM_0 uX6 rfl 7 (Nat.le_of_ble_eq_true rfl) rfl rfl f29 dX6_serves_1 ?_
  refine V_iload_n C dX6_serves_4 1 rfl ?_
  obtain ⟨hv1, hJ⟩ := hJ
  refine V_iald C okM_7 0 rfl rfl rfl hv1 dX6_serves_5 ?_
  refine V_topi (fun x2_2 hx2_2 => ?_)
  replace hJ := hJ x2_2 hx2_2
  refine V_istore_n (lv' := [(2, .int x2_2), (0, .ref (ad (0, 0, 0))), (1, .int x1)]) C dX6_serves_6 (by decide) rfl ?_
  refine V_aload_n C dX6_serves_7 1 rfl ?_
  refine V_get (ci := 6) C okM_0 uX6 rfl 7 (Nat.le_of_ble_eq_true rfl) rfl rfl f29 dX6_serves_8 ?_
  refine V_iload_n C dX6_serves_11 2 rfl ?_
  refine V_aload_n C dX6_serves_12 1 rfl ?_
  refine V_get (ci := 6) C okM_0 uX6 rfl 6 (Nat.le_of_ble_eq_true rfl) rfl rfl f26 dX6_serves_13 ?_
  refine V_iload_n C dX6_serves_16 2 rfl ?_
  obtain ⟨hv3, hJ⟩ := hJ
  refine V_iald C okM_6 0 rfl rfl rfl hv3 dX6_serves_17 ?_
  refine V_iload_n C dX6_serves_18 0 rfl ?_
  obtain ⟨hJt, hJf⟩ := hJ
  refine V_icmp_le C (tgt := 31) dX6_serves_19 rfl (fun hc4 => ?_) (fun hc4 => ?_)
  · have hJ := hJt hc4; clear hJt hJf
    refine V_iload_n C dX6_serves_31 0 rfl ?_
    refine V_sub (lv' := [(0, .ref (ad (0, 0, 0))), (1, .int x1), (2, .int x2_2)]) [1, 2, 0] rfl ?_
    exact B32 x1 x2_2 x2_2 x1 σ hJ
  · have hJ := hJf hc4; clear hJt hJf
    refine V_aload_n C dX6_serves_22 1 rfl ?_
    refine V_get (ci := 6) C okM_0 uX6 rfl 6 (Nat.le_of_ble_eq_true rfl) rfl rfl f26 dX6_serves_23 ?_
    refine V_iload_n C dX6_serves_26 2 rfl ?_
    obtain ⟨hv15, hJ⟩ := hJ
    refine V_iald C okM_6 0 rfl rfl rfl hv15 dX6_serves_27 ?_
    refine V_goto C (tgt := 32) dX6_serves_28 rfl ?_
    refine V_sub (lv' := [(0, .ref (ad (0, 0, 0))), (1, .int x1), (2, .int x2_2)]) [1, 2, 0] rfl ?_
    exact B32 x1 x2_2 (σ (6, 0, 0) x1.toNatClampNeg) x1 σ hJ
set_option maxHeartbeats 4000000 in
set_option maxRecDepth 100000 in
theorem M_X6_isOlder (l : Launch) (D : va_G) (tc : Nat → ClassId) (ad : Oid → Nat) (A : Nat → Prop) (x1 : Int32) (x2 : Int32) {σ : Mem} {Qr : Int32 → Mem → Prop} (hJ : J_X6_isOlder x1 x2 σ Qr) : Met l yX6_isOlder wsX6_isOlder ({ frames := 0, cells := 0, slots := 0, locals := 0 }) (va_Pc [.ref (ad (0, 0, 0)), .int x1, .int x2] (WdI D vwCl (tysX tc) idsM ad (ceM tc ad) A σ)) (va_Qi (fun (r : Int32) (u : Mem) => Qr r u) (WdO D vwCl idsM ad (ceM tc ad) A) A) 0 0 A := by
  refine V_meti (cc := cX6_isOlder) (nL := 3) (ret := (some .boolean)) (own := RX6) rfl (plainFor_of_name (by decide)) rfl rfl (Nat.le_of_ble_eq_true rfl) ?_
  intro p e s m below meth c C hr hlocks
  refine V_sub (lv' := [(0, .ref (ad (0, 0, 0))), (1, .int x1), (2, .int x2)]) [0, 1, 2] rfl ?_
  have f7 : Cond.fieldLink RX6 7 (TX6 0).1 (TX6 0).2.1 (TX6 0).2.2.1 ∈ wsX6_isOlder := List.mem_of_getElem? (i := 1) rfl
  have uX6 : ∀ w ∈ u_ws RX6 TX6 12, w ∈ wsX6_isOlder := by decide +kernel
  unfold J_X6_isOlder at hJ
  refine V_aload_n C dX6_isOlder_0 0 rfl ?_
  refine V_get (ci := 6) C okM_0 uX6 rfl 0 (Nat.le_of_ble_eq_true rfl) rfl rfl f7 dX6_isOlder_1 ?_
  refine V_bipush (v := 82) C dX6_isOlder_4 cb_82 ?_
  refine V_iload_n C dX6_isOlder_6 1 rfl ?_
  refine V_iadd C dX6_isOlder_7 ?_
  obtain ⟨hv1, hJ⟩ := hJ
  refine V_iald C okM_1 0 rfl rfl rfl hv1 dX6_isOlder_8 ?_
  refine V_aload_n C dX6_isOlder_9 0 rfl ?_
  refine V_get (ci := 6) C okM_0 uX6 rfl 0 (Nat.le_of_ble_eq_true rfl) rfl rfl f7 dX6_isOlder_10 ?_
  refine V_bipush (v := 82) C dX6_isOlder_13 cb_82 ?_
  refine V_iload_n C dX6_isOlder_15 2 rfl ?_
  refine V_iadd C dX6_isOlder_16 ?_
  obtain ⟨hv2, hJ⟩ := hJ
  refine V_iald C okM_1 0 rfl rfl rfl hv2 dX6_isOlder_17 ?_
  obtain ⟨hJt, hJf⟩ := hJ
  refine V_icmp_lt C (tgt := 47) dX6_isOlder_18 rfl (fun hc3 => ?_) (fun hc3 => ?_)
  · have hJ := hJt hc3; clear hJt hJf
    refine V_iconst (v := 1) C dX6_isOlder_47 ci_1 ?_
    refine V_goto C (tgt := 52) dX6_isOlder_48 rfl ?_
    exact V_zret C hr hlocks (Or.inr rfl) dX6_isOlder_52 hJ
  · have hJ := hJf hc3; clear hJt hJf
    refine V_aload_n C dX6_isOlder_21 0 rfl ?_
    refine V_get (ci := 6) C okM_0 uX6 rfl 0 (Nat.le_of_ble_eq_true rfl) rfl rfl f7 dX6_isOlder_22 ?_
    refine V_bipush (v := 82) C dX6_isOlder_25 cb_82 ?_
    refine V_iload_n C dX6_isOlder_27 1 rfl ?_
    refine V_iadd C dX6_isOlder_28 ?_
    obtain ⟨hv4, hJ⟩ := hJ
    refine V_iald C okM_1 0 rfl rfl rfl hv4 dX6_isOlder_29 ?_
    refine V_aload_n C dX6_isOlder_30 0 rfl ?_
    refine V_get (ci := 6) C okM_0 uX6 rfl 0 (Nat.le_of_ble_eq_true rfl) rfl rfl f7 dX6_isOlder_31 ?_
    refine V_bipush (v := 82) C dX6_isOlder_34 cb_82 ?_
    refine V_iload_n C dX6_isOlder_36 2 rfl ?_
    refine V_iadd C dX6_isOlder_37 ?_
    obtain ⟨hv5, hJ⟩ := hJ
    refine V_iald C okM_1 0 rfl rfl rfl hv5 dX6_isOlder_38 ?_
    obtain ⟨hJt, hJf⟩ := hJ
    refine V_icmp_ne C (tgt := 51) dX6_isOlder_39 rfl (fun hc6 => ?_) (fun hc6 => ?_)
    · have hJ := hJt hc6; clear hJt hJf
      refine V_iconst (v := 0) C dX6_isOlder_51 ci_0 ?_
      exact V_zret C hr hlocks (Or.inl rfl) dX6_isOlder_52 hJ
    · have hJ := hJf hc6; clear hJt hJf
      refine V_iload_n C dX6_isOlder_42 1 rfl ?_
      refine V_iload_n C dX6_isOlder_43 2 rfl ?_
      obtain ⟨hJt, hJf⟩ := hJ
      refine V_icmp_ge C (tgt := 51) dX6_isOlder_44 rfl (fun hc7 => ?_) (fun hc7 => ?_)
      · have hJ := hJt hc7; clear hJt hJf
        refine V_iconst (v := 0) C dX6_isOlder_51 ci_0 ?_
        exact V_zret C hr hlocks (Or.inl rfl) dX6_isOlder_52 hJ
      · have hJ := hJf hc7; clear hJt hJf
        refine V_iconst (v := 1) C dX6_isOlder_47 ci_1 ?_
        refine V_goto C (tgt := 52) dX6_isOlder_48 rfl ?_
        exact V_zret C hr hlocks (Or.inr rfl) dX6_isOlder_52 hJ
set_option maxHeartbeats 4000000 in
set_option maxRecDepth 100000 in
theorem M_X6_ranked (l : Launch) (D : va_G) (tc : Nat → ClassId) (ad : Oid → Nat) (A : Nat → Prop) (x1 : Int32) {σ : Mem} {Qr : Int32 → Mem → Prop} (hJ : J_X6_ranked x1 σ Qr) : Met l yX6_ranked wsX6_ranked ({ frames := 1, cells := 0, slots := 0, locals := 22 }) (va_Pc [.ref (ad (0, 0, 0)), .int x1] (WdI D vwCl (tysX tc) idsM ad (ceM tc ad) A σ)) (va_Qi (fun (r : Int32) (u : Mem) => Qr r u) (WdO D vwCl idsM ad (ceM tc ad) A) A) 0 0 A := by
  refine V_meti (cc := cX6_ranked) (nL := 5) (ret := (some .int)) (own := RX6) rfl (plainFor_of_name (by decide)) rfl rfl (Nat.le_of_ble_eq_true rfl) ?_
  intro p e s m below meth c C hr hlocks
  refine V_sub (lv' := [(0, .ref (ad (0, 0, 0))), (1, .int x1)]) [0, 1] rfl ?_
  have f7 : Cond.fieldLink RX6 7 (TX6 0).1 (TX6 0).2.1 (TX6 0).2.2.1 ∈ wsX6_ranked := List.mem_of_getElem? (i := 1) rfl
  have uX6 : ∀ w ∈ u_ws RX6 TX6 12, w ∈ wsX6_ranked := by decide +kernel
  unfold J_X6_ranked at hJ
  refine V_iconst (v := 0) C dX6_ranked_0 ci_0 ?_
  refine V_istore_n (lv' := [(2, .int 0), (0, .ref (ad (0, 0, 0))), (1, .int x1)]) C dX6_ranked_1 (by decide) rfl ?_
  refine V_sub (lv' := [(0, .ref (ad (0, 0, 0))), (1, .int x1), (2, .int 0)]) [1, 2, 0] rfl ?_
  obtain ⟨I2, μ2, hI2, hst2⟩ := hJ
  have L2 : ∀ (n : Nat) (x2_1 : Int32) (τ1 : Mem), μ2 x2_1 τ1 < n → I2 x2_1 τ1 → VV p l e (headSpec wsX6_ranked ({ frames := 1, cells := 0, slots := 0, locals := 22 })).room s m ([.ref (ad (0, 0, 0)), .int x1] : List Value).toArray below meth c D vwCl idsM ad (ceM tc ad) A (MQ below (va_Qi (fun (r : Int32) (u : Mem) => Qr r u) (WdO D vwCl idsM ad (ceM tc ad) A) A) ([.ref (ad (0, 0, 0)), .int x1] : List Value).toArray s 0 0 A) 5 2 [(0, .ref (ad (0, 0, 0))), (1, .int x1), (2, .int x2_1)] [] τ1 := by
    intro n
    induction n with
    | zero => intro x2_1 τ1 hμ _; exact absurd hμ (Nat.not_lt_zero _)
    | succ n ihn =>
      intro x2_1 τ1 hμ2 hJ
      have ih2 := ihn
      replace hJ := hst2 x2_1 τ1 hJ
      refine V_iload_n C dX6_ranked_2 2 rfl ?_
      refine V_aload_n C dX6_ranked_3 0 rfl ?_
      refine V_get (ci := 6) C okM_0 uX6 rfl 0 (Nat.le_of_ble_eq_true rfl) rfl rfl f7 dX6_ranked_4 ?_
      refine V_iconst (v := 2) C dX6_ranked_7 ci_2 ?_
      refine V_iald C okM_1 0 rfl rfl ix_2 vpc_2_214 dX6_ranked_8 ?_
      obtain ⟨hJt, hJf⟩ := hJ
      refine V_icmp_ge C (tgt := 65) dX6_ranked_9 rfl (fun hc2 => ?_) (fun hc2 => ?_)
      · have hJ := hJt hc2; clear hJt hJf
        refine V_bipush (v := (-101)) C dX6_ranked_65 cb_m101 ?_
        exact V_iret C hr hlocks dX6_ranked_67 hJ
      · have hJ := hJf hc2; clear hJt hJf
        refine V_iconst (v := 0) C dX6_ranked_12 ci_0 ?_
        refine V_istore_n (lv' := [(3, .int 0), (0, .ref (ad (0, 0, 0))), (1, .int x1), (2, .int x2_1)]) C dX6_ranked_13 (by decide) rfl ?_
        refine V_iconst (v := 0) C dX6_ranked_14 ci_0 ?_
        refine V_istore (lv' := [(4, .int 0), (3, .int 0), (0, .ref (ad (0, 0, 0))), (1, .int x1), (2, .int x2_1)]) C dX6_ranked_15 (by decide) rfl ?_
        refine V_sub (lv' := [(0, .ref (ad (0, 0, 0))), (1, .int x1), (2, .int x2_1), (3, .int 0), (4, .int 0)]) [2, 3, 4, 1, 0] rfl ?_
        obtain ⟨I17, μ17, hI17, hst17⟩ := hJ
        have L17 : ∀ (n : Nat) (x3_3 : Int32) (x4_3 : Int32) (τ3 : Mem), μ17 x3_3 x4_3 τ3 < n → I17 x3_3 x4_3 τ3 → VV p l e (headSpec wsX6_ranked ({ frames := 1, cells := 0, slots := 0, locals := 22 })).room s m ([.ref (ad (0, 0, 0)), .int x1] : List Value).toArray below meth c D vwCl idsM ad (ceM tc ad) A (MQ below (va_Qi (fun (r : Int32) (u : Mem) => Qr r u) (WdO D vwCl idsM ad (ceM tc ad) A) A) ([.ref (ad (0, 0, 0)), .int x1] : List Value).toArray s 0 0 A) 5 17 [(0, .ref (ad (0, 0, 0))), (1, .int x1), (2, .int x2_1), (3, .int x3_3), (4, .int x4_3)] [] τ3 := by
          intro n
          induction n with
          | zero => intro x3_3 x4_3 τ3 hμ _; exact absurd hμ (Nat.not_lt_zero _)
          | succ n ihn =>
            intro x3_3 x4_3 τ3 hμ17 hJ
            have ih17 := ihn
            replace hJ := hst17 x3_3 x4_3 τ3 hJ
            refine V_iload C dX6_ranked_17 4 rfl ?_
            refine V_aload_n C dX6_ranked_19 0 rfl ?_
            refine V_get (ci := 6) C okM_0 uX6 rfl 0 (Nat.le_of_ble_eq_true rfl) rfl rfl f7 dX6_ranked_20 ?_
            refine V_iconst (v := 2) C dX6_ranked_23 ci_2 ?_
            refine V_iald C okM_1 0 rfl rfl ix_2 vpc_2_214 dX6_ranked_24 ?_
            obtain ⟨hJt, hJf⟩ := hJ
            refine V_icmp_ge C (tgt := 52) dX6_ranked_25 rfl (fun hc4 => ?_) (fun hc4 => ?_)
            · have hJ := hJt hc4; clear hJt hJf
              refine V_iload_n C dX6_ranked_52 3 rfl ?_
              refine V_iload_n C dX6_ranked_53 1 rfl ?_
              obtain ⟨hJt, hJf⟩ := hJ
              refine V_icmp_ne C (tgt := 59) dX6_ranked_54 rfl (fun hc5 => ?_) (fun hc5 => ?_)
              · have hJ := hJt hc5; clear hJt hJf
                obtain ⟨x2_6, hx2_6⟩ : ∃ y : Int32, y = x2_1 + 1 := ⟨_, rfl⟩
                replace hJ := hJ x2_6 hx2_6
                refine V_iinc (v := x2_6) (lv' := [(2, .int x2_6), (0, .ref (ad (0, 0, 0))), (1, .int x1), (3, .int x3_3), (4, .int x4_3)]) C dX6_ranked_59 2 rfl (by rw [hx2_6]; exact congrArg _ ci_1) (by decide) rfl ?_
                refine V_goto C (tgt := 2) dX6_ranked_62 rfl ?_
                refine V_sub (lv' := [(0, .ref (ad (0, 0, 0))), (1, .int x1), (2, .int x2_6)]) [1, 2, 0] rfl ?_
                exact ih2 x2_6 τ3 (Nat.lt_of_lt_of_le hJ.2 (Nat.le_of_lt_succ hμ2)) hJ.1
              · have hJ := hJf hc5; clear hJt hJf
                refine V_iload_n C dX6_ranked_57 2 rfl ?_
                exact V_iret C hr hlocks dX6_ranked_58 hJ
            · have hJ := hJf hc4; clear hJt hJf
              refine V_iload_n C dX6_ranked_28 3 rfl ?_
              refine V_aload_n C dX6_ranked_29 0 rfl ?_
              refine V_iload C dX6_ranked_30 4 rfl ?_
              refine V_iload_n C dX6_ranked_32 2 rfl ?_
              refine V_cVi (st := [.int x3_3]) (ci := 6) C okM_0 (M_X6_isOlder l D tc ad A x4_3 x2_1 hJ) (cwV 2 C.1.2.2.2.2 gX6_ranked_X6_isOlder rfl rfl rfl (by decide +kernel) ⟨Nat.le_of_ble_eq_true rfl, Nat.le_of_ble_eq_true rfl⟩) rfl rfl rfl rfl (Nat.le_of_ble_eq_true rfl) dX6_ranked_33 (fun r7 τ7 hJ => ?_)
              obtain ⟨hJt, hJf⟩ := hJ
              refine V_if_eq C (tgt := 43) dX6_ranked_36 rfl (fun hc8 => ?_) (fun hc8 => ?_)
              · have hJ := hJt hc8; clear hJt hJf
                refine V_iconst (v := 0) C dX6_ranked_43 ci_0 ?_
                refine V_iadd C dX6_ranked_44 ?_
                refine V_topi (fun x3_9 hx3_9 => ?_)
                replace hJ := hJ x3_9 hx3_9
                refine V_istore_n (lv' := [(3, .int x3_9), (0, .ref (ad (0, 0, 0))), (1, .int x1), (2, .int x2_1), (4, .int x4_3)]) C dX6_ranked_45 (by decide) rfl ?_
                obtain ⟨x4_10, hx4_10⟩ : ∃ y : Int32, y = x4_3 + 1 := ⟨_, rfl⟩
                replace hJ := hJ x4_10 hx4_10
                refine V_iinc (v := x4_10) (lv' := [(4, .int x4_10), (3, .int x3_9), (0, .ref (ad (0, 0, 0))), (1, .int x1), (2, .int x2_1)]) C dX6_ranked_46 4 rfl (by rw [hx4_10]; exact congrArg _ ci_1) (by decide) rfl ?_
                refine V_goto C (tgt := 17) dX6_ranked_49 rfl ?_
                refine V_sub (lv' := [(0, .ref (ad (0, 0, 0))), (1, .int x1), (2, .int x2_1), (3, .int x3_9), (4, .int x4_10)]) [2, 3, 4, 1, 0] rfl ?_
                exact ih17 x3_9 x4_10 τ7 (Nat.lt_of_lt_of_le hJ.2 (Nat.le_of_lt_succ hμ17)) hJ.1
              · have hJ := hJf hc8; clear hJt hJf
                refine V_iconst (v := 1) C dX6_ranked_39 ci_1 ?_
                refine V_goto C (tgt := 44) dX6_ranked_40 rfl ?_
                refine V_iadd C dX6_ranked_44 ?_
                refine V_topi (fun x3_11 hx3_11 => ?_)
                replace hJ := hJ x3_11 hx3_11
                refine V_istore_n (lv' := [(3, .int x3_11), (0, .ref (ad (0, 0, 0))), (1, .int x1), (2, .int x2_1), (4, .int x4_3)]) C dX6_ranked_45 (by decide) rfl ?_
                obtain ⟨x4_12, hx4_12⟩ : ∃ y : Int32, y = x4_3 + 1 := ⟨_, rfl⟩
                replace hJ := hJ x4_12 hx4_12
                refine V_iinc (v := x4_12) (lv' := [(4, .int x4_12), (3, .int x3_11), (0, .ref (ad (0, 0, 0))), (1, .int x1), (2, .int x2_1)]) C dX6_ranked_46 4 rfl (by rw [hx4_12]; exact congrArg _ ci_1) (by decide) rfl ?_
                refine V_goto C (tgt := 17) dX6_ranked_49 rfl ?_
                refine V_sub (lv' := [(0, .ref (ad (0, 0, 0))), (1, .int x1), (2, .int x2_1), (3, .int x3_11), (4, .int x4_12)]) [2, 3, 4, 1, 0] rfl ?_
                exact ih17 x3_11 x4_12 τ7 (Nat.lt_of_lt_of_le hJ.2 (Nat.le_of_lt_succ hμ17)) hJ.1
        exact L17 _ 0 0 τ1 (Nat.lt_succ_self _) hI17
  exact L2 _ 0 σ (Nat.lt_succ_self _) hI2
set_option maxHeartbeats 4000000 in
set_option maxRecDepth 100000 in
theorem M_X6_distributes (l : Launch) (D : va_G) (tc : Nat → ClassId) (ad : Oid → Nat) (A : Nat → Prop) {σ : Mem} {Qr : Mem → Prop} (hJ : J_X6_distributes σ Qr) : Met l yX6_distributes wsX6_distributes ({ frames := 3, cells := 0, slots := 0, locals := 66 }) (va_Pc [.ref (ad (0, 0, 0))] (WdI D vwCl (tysX tc) idsM ad (ceM tc ad) A σ)) (va_Qv (fun (u : Mem) => Qr u) (WdO D vwCl idsM ad (ceM tc ad) A) A) 0 0 A := by
  refine V_metv (cc := cX6_distributes) (nL := 4) (ret := none) (own := RX6) rfl (plainFor_of_name (by decide)) rfl rfl (Nat.le_of_ble_eq_true rfl) ?_
  intro p e s m below meth c C hr hlocks
  refine V_sub (lv' := [(0, .ref (ad (0, 0, 0)))]) [0] rfl ?_
  have f7 : Cond.fieldLink RX6 7 (TX6 0).1 (TX6 0).2.1 (TX6 0).2.2.1 ∈ wsX6_distributes := List.mem_of_getElem? (i := 1) rfl
  have uX6 : ∀ w ∈ u_ws RX6 TX6 12, w ∈ wsX6_distributes := by decide +kernel
  have f29 : Cond.fieldLink RX6 29 (TX6 7).1 (TX6 7).2.1 (TX6 7).2.2.1 ∈ wsX6_distributes := List.mem_of_getElem? (i := 2) rfl
  have B57 : ∀ (b1 : Int32) (τ : Mem), J_X6_distributes_b57   b1 τ Qr → VV p l e (headSpec wsX6_distributes ({ frames := 3, cells := 0, slots := 0, locals := 66 })).room s m ([.ref (ad (0, 0, 0))] : List Value).toArray below meth c D vwCl idsM ad (ceM tc ad) A (MQ below (va_Qv (fun (u : Mem) => Qr u) (WdO D vwCl idsM ad (ceM tc ad) A) A) ([.ref (ad (0, 0, 0))] : List Value).toArray s 0 0 A) 4 57 [(0, .ref (ad (0, 0, 0))), (1, .int b1)] [] τ := by
    intro b1 τ hJ
    unfold J_X6_distributes_b57 at hJ
    refine V_iconst (v := 0) C dX6_distributes_57 ci_0 ?_
    refine V_istore_n (lv' := [(2, .int 0), (0, .ref (ad (0, 0, 0))), (1, .int b1)]) C dX6_distributes_58 (by decide) rfl ?_
    refine V_sub (lv' := [(0, .ref (ad (0, 0, 0))), (1, .int b1), (2, .int 0)]) [1, 2, 0] rfl ?_
    obtain ⟨I59, μ59, hI59, hst59⟩ := hJ
    have L59 : ∀ (n : Nat) (x2_7 : Int32) (τ7 : Mem), μ59 x2_7 τ7 < n → I59 x2_7 τ7 → VV p l e (headSpec wsX6_distributes ({ frames := 3, cells := 0, slots := 0, locals := 66 })).room s m ([.ref (ad (0, 0, 0))] : List Value).toArray below meth c D vwCl idsM ad (ceM tc ad) A (MQ below (va_Qv (fun (u : Mem) => Qr u) (WdO D vwCl idsM ad (ceM tc ad) A) A) ([.ref (ad (0, 0, 0))] : List Value).toArray s 0 0 A) 4 59 [(0, .ref (ad (0, 0, 0))), (1, .int b1), (2, .int x2_7)] [] τ7 := by
      intro n
      induction n with
      | zero => intro x2_7 τ7 hμ _; exact absurd hμ (Nat.not_lt_zero _)
      | succ n ihn =>
        intro x2_7 τ7 hμ59 hJ
        have ih59 := ihn
        replace hJ := hst59 x2_7 τ7 hJ
        refine V_iload_n C dX6_distributes_59 2 rfl ?_
        refine V_aload_n C dX6_distributes_60 0 rfl ?_
        refine V_get (ci := 6) C okM_0 uX6 rfl 0 (Nat.le_of_ble_eq_true rfl) rfl rfl f7 dX6_distributes_61 ?_
        refine V_iconst (v := 2) C dX6_distributes_64 ci_2 ?_
        refine V_iald C okM_1 0 rfl rfl ix_2 vpc_2_214 dX6_distributes_65 ?_
        obtain ⟨hJt, hJf⟩ := hJ
        refine V_icmp_ge C (tgt := 91) dX6_distributes_66 rfl (fun hc8 => ?_) (fun hc8 => ?_)
        · have hJ := hJt hc8; clear hJt hJf
          refine V_aload_n C dX6_distributes_91 0 rfl ?_
          refine V_cVi (st := []) (ci := 6) C okM_0 (M_X6_isPossible l D tc ad A  hJ) (cwV 0 C.1.2.2.2.2 gX6_distributes_X6_isPossible rfl rfl rfl (by decide +kernel) ⟨Nat.le_of_ble_eq_true rfl, Nat.le_of_ble_eq_true rfl⟩) rfl rfl rfl rfl (Nat.le_of_ble_eq_true rfl) dX6_distributes_92 (fun r9 τ9 hJ => ?_)
          refine V_istore_n (lv' := [(2, .int r9), (0, .ref (ad (0, 0, 0))), (1, .int b1)]) C dX6_distributes_95 (by decide) rfl ?_
          exact V_vret C hr hlocks dX6_distributes_96 hJ
        · have hJ := hJf hc8; clear hJt hJf
          refine V_aload_n C dX6_distributes_69 0 rfl ?_
          refine V_iload_n C dX6_distributes_70 2 rfl ?_
          refine V_cVi (st := []) (ci := 6) C okM_0 (M_X6_ranked l D tc ad A x2_7 hJ) (cwV 1 C.1.2.2.2.2 gX6_distributes_X6_ranked rfl rfl rfl (by decide +kernel) ⟨Nat.le_of_ble_eq_true rfl, Nat.le_of_ble_eq_true rfl⟩) rfl rfl rfl rfl (Nat.le_of_ble_eq_true rfl) dX6_distributes_71 (fun r10 τ10 hJ => ?_)
          refine V_istore_n (lv' := [(3, .int r10), (0, .ref (ad (0, 0, 0))), (1, .int b1), (2, .int x2_7)]) C dX6_distributes_74 (by decide) rfl ?_
          refine V_iload_n C dX6_distributes_75 0 rfl ?_
          refine V_iload_n C dX6_distributes_76 2 rfl ?_
          obtain ⟨hJt, hJf⟩ := hJ
          refine V_icmp_eq C (tgt := 85) dX6_distributes_77 rfl (fun hc11 => ?_) (fun hc11 => ?_)
          · have hJ := hJt hc11; clear hJt hJf
            obtain ⟨x2_12, hx2_12⟩ : ∃ y : Int32, y = x2_7 + 1 := ⟨_, rfl⟩
            replace hJ := hJ x2_12 hx2_12
            refine V_iinc (v := x2_12) (lv' := [(2, .int x2_12), (3, .int r10), (0, .ref (ad (0, 0, 0))), (1, .int b1)]) C dX6_distributes_85 3 rfl (by rw [hx2_12]; exact congrArg _ ci_1) (by decide) rfl ?_
            refine V_goto C (tgt := 59) dX6_distributes_88 rfl ?_
            refine V_sub (lv' := [(0, .ref (ad (0, 0, 0))), (1, .int b1), (2, .int x2_12)]) [2, 3, 0] rfl ?_
            exact ih59 x2_12 τ10 (Nat.lt_of_lt_of_le hJ.2 (Nat.le_of_lt_succ hμ59)) hJ.1
          · have hJ := hJf hc11; clear hJt hJf
            refine V_aload_n C dX6_distributes_80 1 rfl ?_
            refine V_iload_n C dX6_distributes_81 0 rfl ?_
            refine V_cVv (st := []) (ci := 6) C okM_0 (M_X6_serves l D tc ad A r10 hJ) (cwV 1 C.1.2.2.2.2 gX6_distributes_X6_serves rfl rfl rfl (by decide +kernel) ⟨Nat.le_of_ble_eq_true rfl, Nat.le_of_ble_eq_true rfl⟩) rfl rfl rfl rfl (Nat.le_of_ble_eq_true rfl) dX6_distributes_82 (fun τ13 hJ => ?_)
            obtain ⟨x2_14, hx2_14⟩ : ∃ y : Int32, y = x2_7 + 1 := ⟨_, rfl⟩
            replace hJ := hJ x2_14 hx2_14
            refine V_iinc (v := x2_14) (lv' := [(2, .int x2_14), (3, .int r10), (0, .ref (ad (0, 0, 0))), (1, .int b1)]) C dX6_distributes_85 3 rfl (by rw [hx2_14]; exact congrArg _ ci_1) (by decide) rfl ?_
            refine V_goto C (tgt := 59) dX6_distributes_88 rfl ?_
            refine V_sub (lv' := [(0, .ref (ad (0, 0, 0))), (1, .int b1), (2, .int x2_14)]) [2, 3, 0] rfl ?_
            exact ih59 x2_14 τ13 (Nat.lt_of_lt_of_le hJ.2 (Nat.le_of_lt_succ hμ59)) hJ.1
    exact L59 _ 0 τ (Nat.lt_succ_self _) hI59
  have B48 : ∀ (b1 : Int32) (τ : Mem), J_X6_distributes_b48   b1 τ Qr → VV p l e (headSpec wsX6_distributes ({ frames := 3, cells := 0, slots := 0, locals := 66 })).room s m ([.ref (ad (0, 0, 0))] : List Value).toArray below meth c D vwCl idsM ad (ceM tc ad) A (MQ below (va_Qv (fun (u : Mem) => Qr u) (WdO D vwCl idsM ad (ceM tc ad) A) A) ([.ref (ad (0, 0, 0))] : List Value).toArray s 0 0 A) 4 48 [(0, .ref (ad (0, 0, 0))), (1, .int b1)] [] τ := by
    intro b1 τ hJ
    unfold J_X6_distributes_b48 at hJ
    refine V_iload_n C dX6_distributes_48 1 rfl ?_
    obtain ⟨hJt, hJf⟩ := hJ
    refine V_if_lt C (tgt := 57) dX6_distributes_49 rfl (fun hc6 => ?_) (fun hc6 => ?_)
    · have hJ := hJt hc6; clear hJt hJf
      exact B57 b1 τ hJ
    · have hJ := hJf hc6; clear hJt hJf
      refine V_aload_n C dX6_distributes_52 0 rfl ?_
      refine V_iload_n C dX6_distributes_53 1 rfl ?_
      refine V_cVv (st := []) (ci := 6) C okM_0 (M_X6_serves l D tc ad A b1 hJ) (cwV 1 C.1.2.2.2.2 gX6_distributes_X6_serves rfl rfl rfl (by decide +kernel) ⟨Nat.le_of_ble_eq_true rfl, Nat.le_of_ble_eq_true rfl⟩) rfl rfl rfl rfl (Nat.le_of_ble_eq_true rfl) dX6_distributes_54 (fun τ15 hJ => ?_)
      exact B57 b1 τ15 hJ
  unfold J_X6_distributes at hJ
  refine V_aload_n C dX6_distributes_0 0 rfl ?_
  refine V_cVv (st := []) (ci := 6) C okM_0 (M_X6_findAsked l D tc ad A  hJ) (cwV 0 C.1.2.2.2.2 gX6_distributes_X6_findAsked rfl rfl rfl (by decide +kernel) ⟨Nat.le_of_ble_eq_true rfl, Nat.le_of_ble_eq_true rfl⟩) rfl rfl rfl rfl (Nat.le_of_ble_eq_true rfl) dX6_distributes_1 (fun τ1 hJ => ?_)
  refine V_aload_n C dX6_distributes_4 0 rfl ?_
  refine V_cVi (st := []) (ci := 6) C okM_0 (M_X6_turnNow l D tc ad A  hJ) (cwV 0 C.1.2.2.2.2 gX6_distributes_X6_turnNow rfl rfl rfl (by decide +kernel) ⟨Nat.le_of_ble_eq_true rfl, Nat.le_of_ble_eq_true rfl⟩) rfl rfl rfl rfl (Nat.le_of_ble_eq_true rfl) dX6_distributes_5 (fun r2 τ2 hJ => ?_)
  refine V_istore_n (lv' := [(1, .int r2), (0, .ref (ad (0, 0, 0)))]) C dX6_distributes_8 (by decide) rfl ?_
  refine V_iconst (v := 0) C dX6_distributes_9 ci_0 ?_
  refine V_istore_n (lv' := [(2, .int 0), (1, .int r2), (0, .ref (ad (0, 0, 0)))]) C dX6_distributes_10 (by decide) rfl ?_
  refine V_sub (lv' := [(0, .ref (ad (0, 0, 0))), (1, .int r2), (2, .int 0)]) [2, 1, 0] rfl ?_
  obtain ⟨I11, μ11, hI11, hst11⟩ := hJ
  have L11 : ∀ (n : Nat) (x2_3 : Int32) (τ3 : Mem), μ11 x2_3 τ3 < n → I11 x2_3 τ3 → VV p l e (headSpec wsX6_distributes ({ frames := 3, cells := 0, slots := 0, locals := 66 })).room s m ([.ref (ad (0, 0, 0))] : List Value).toArray below meth c D vwCl idsM ad (ceM tc ad) A (MQ below (va_Qv (fun (u : Mem) => Qr u) (WdO D vwCl idsM ad (ceM tc ad) A) A) ([.ref (ad (0, 0, 0))] : List Value).toArray s 0 0 A) 4 11 [(0, .ref (ad (0, 0, 0))), (1, .int r2), (2, .int x2_3)] [] τ3 := by
    intro n
    induction n with
    | zero => intro x2_3 τ3 hμ _; exact absurd hμ (Nat.not_lt_zero _)
    | succ n ihn =>
      intro x2_3 τ3 hμ11 hJ
      have ih11 := ihn
      replace hJ := hst11 x2_3 τ3 hJ
      refine V_iload_n C dX6_distributes_11 2 rfl ?_
      refine V_aload_n C dX6_distributes_12 0 rfl ?_
      refine V_get (ci := 6) C okM_0 uX6 rfl 0 (Nat.le_of_ble_eq_true rfl) rfl rfl f7 dX6_distributes_13 ?_
      refine V_iconst (v := 2) C dX6_distributes_16 ci_2 ?_
      refine V_iald C okM_1 0 rfl rfl ix_2 vpc_2_214 dX6_distributes_17 ?_
      obtain ⟨hJt, hJf⟩ := hJ
      refine V_icmp_ge C (tgt := 34) dX6_distributes_18 rfl (fun hc4 => ?_) (fun hc4 => ?_)
      · have hJ := hJt hc4; clear hJt hJf
        refine V_aload_n C dX6_distributes_34 0 rfl ?_
        refine V_get (ci := 6) C okM_0 uX6 rfl 0 (Nat.le_of_ble_eq_true rfl) rfl rfl f7 dX6_distributes_35 ?_
        refine V_iconst (v := 3) C dX6_distributes_38 ci_3 ?_
        refine V_iald C okM_1 0 rfl rfl ix_3 vpc_3_214 dX6_distributes_39 ?_
        refine V_iconst (v := 2) C dX6_distributes_40 ci_2 ?_
        obtain ⟨hJt, hJf⟩ := hJ
        refine V_icmp_ne C (tgt := 48) dX6_distributes_41 rfl (fun hc5 => ?_) (fun hc5 => ?_)
        · have hJ := hJt hc5; clear hJt hJf
          refine V_sub (lv' := [(0, .ref (ad (0, 0, 0))), (1, .int r2)]) [0, 1] rfl ?_
          exact B48 r2 τ3 hJ
        · have hJ := hJf hc5; clear hJt hJf
          refine V_aload_n C dX6_distributes_44 0 rfl ?_
          refine V_cVv (st := []) (ci := 6) C okM_0 (M_X6_proportions l D tc ad A  hJ) (cwV 0 C.1.2.2.2.2 gX6_distributes_X6_proportions rfl rfl rfl (by decide +kernel) ⟨Nat.le_of_ble_eq_true rfl, Nat.le_of_ble_eq_true rfl⟩) rfl rfl rfl rfl (Nat.le_of_ble_eq_true rfl) dX6_distributes_45 (fun τ16 hJ => ?_)
          refine V_sub (lv' := [(0, .ref (ad (0, 0, 0))), (1, .int r2)]) [0, 1] rfl ?_
          exact B48 r2 τ16 hJ
      · have hJ := hJf hc4; clear hJt hJf
        refine V_aload_n C dX6_distributes_21 0 rfl ?_
        refine V_get (ci := 6) C okM_0 uX6 rfl 7 (Nat.le_of_ble_eq_true rfl) rfl rfl f29 dX6_distributes_22 ?_
        refine V_iload_n C dX6_distributes_25 2 rfl ?_
        refine V_iconst (v := 0) C dX6_distributes_26 ci_0 ?_
        obtain ⟨hv17, hJ⟩ := hJ
        refine V_iast C okM_7 0 rfl (fun _ => rfl) rfl hv17 dX6_distributes_27 (fun τ18 hτ18 => ?_)
        replace hJ := hJ τ18 hτ18
        obtain ⟨x2_19, hx2_19⟩ : ∃ y : Int32, y = x2_3 + 1 := ⟨_, rfl⟩
        replace hJ := hJ x2_19 hx2_19
        refine V_iinc (v := x2_19) (lv' := [(2, .int x2_19), (0, .ref (ad (0, 0, 0))), (1, .int r2)]) C dX6_distributes_28 2 rfl (by rw [hx2_19]; exact congrArg _ ci_1) (by decide) rfl ?_
        refine V_goto C (tgt := 11) dX6_distributes_31 rfl ?_
        refine V_sub (lv' := [(0, .ref (ad (0, 0, 0))), (1, .int r2), (2, .int x2_19)]) [1, 2, 0] rfl ?_
        exact ih11 x2_19 τ18 (Nat.lt_of_lt_of_le hJ.2 (Nat.le_of_lt_succ hμ11)) hJ.1
  exact L11 _ 0 τ2 (Nat.lt_succ_self _) hI11
set_option maxHeartbeats 4000000 in
set_option maxRecDepth 100000 in
theorem M_X6_passes (l : Launch) (D : va_G) (tc : Nat → ClassId) (ad : Oid → Nat) (A : Nat → Prop) {σ : Mem} {Qr : Mem → Prop} (hJ : J_X6_passes σ Qr) : Met l yX6_passes wsX6_passes ({ frames := 4, cells := 0, slots := 0, locals := 89 }) (va_Pc [.ref (ad (0, 0, 0))] (WdI D vwCl (tysX tc) idsM ad (ceM tc ad) A σ)) (va_Qv (fun (u : Mem) => Qr u) (WdO D vwCl idsM ad (ceM tc ad) A) A) 0 0 A := by
  refine V_metv (cc := cX6_passes) (nL := 7) (ret := none) (own := RX6) rfl (plainFor_of_name (by decide)) rfl rfl (Nat.le_of_ble_eq_true rfl) ?_
  intro p e s m below meth c C hr hlocks
  refine V_sub (lv' := [(0, .ref (ad (0, 0, 0)))]) [0] rfl ?_
  have f7 : Cond.fieldLink RX6 7 (TX6 0).1 (TX6 0).2.1 (TX6 0).2.2.1 ∈ wsX6_passes := List.mem_of_getElem? (i := 1) rfl
  have uX6 : ∀ w ∈ u_ws RX6 TX6 12, w ∈ wsX6_passes := by decide +kernel
  have f32 : Cond.fieldLink RX6 32 (TX6 8).1 (TX6 8).2.1 (TX6 8).2.2.1 ∈ wsX6_passes := List.mem_of_getElem? (i := 2) rfl
  have f29 : Cond.fieldLink RX6 29 (TX6 7).1 (TX6 7).2.1 (TX6 7).2.2.1 ∈ wsX6_passes := List.mem_of_getElem? (i := 4) rfl
  have f35 : Cond.fieldLink RX6 35 (TX6 9).1 (TX6 9).2.1 (TX6 9).2.2.1 ∈ wsX6_passes := List.mem_of_getElem? (i := 3) rfl
  unfold J_X6_passes at hJ
  refine V_aload_n C dX6_passes_0 0 rfl ?_
  refine V_cVv (st := []) (ci := 6) C okM_0 (M_X6_distributes l D tc ad A  hJ) (cwV 0 C.1.2.2.2.2 gX6_passes_X6_distributes rfl rfl rfl (by decide +kernel) ⟨Nat.le_of_ble_eq_true rfl, Nat.le_of_ble_eq_true rfl⟩) rfl rfl rfl rfl (Nat.le_of_ble_eq_true rfl) dX6_passes_1 (fun τ1 hJ => ?_)
  refine V_aload_n C dX6_passes_4 0 rfl ?_
  refine V_get (ci := 6) C okM_0 uX6 rfl 0 (Nat.le_of_ble_eq_true rfl) rfl rfl f7 dX6_passes_5 ?_
  refine V_bipush (v := 12) C dX6_passes_8 cb_12 ?_
  refine V_aload_n C dX6_passes_10 0 rfl ?_
  refine V_cVi (st := [.int 12, .ref (ad (1, 0, 0))]) (ci := 6) C okM_0 (M_X6_hour l D tc ad A  hJ) (cwV 0 C.1.2.2.2.2 gX6_passes_X6_hour rfl rfl rfl (by decide +kernel) ⟨Nat.le_of_ble_eq_true rfl, Nat.le_of_ble_eq_true rfl⟩) rfl rfl rfl rfl (Nat.le_of_ble_eq_true rfl) dX6_passes_11 (fun r2 τ2 hJ => ?_)
  refine V_iadd C dX6_passes_14 ?_
  obtain ⟨hv3, hJ⟩ := hJ
  refine V_iald C okM_1 0 rfl rfl rfl hv3 dX6_passes_15 ?_
  refine V_topi (fun x1_4 hx1_4 => ?_)
  replace hJ := hJ x1_4 hx1_4
  refine V_istore_n (lv' := [(1, .int x1_4), (0, .ref (ad (0, 0, 0)))]) C dX6_passes_16 (by decide) rfl ?_
  refine V_aload_n C dX6_passes_17 1 rfl ?_
  refine V_get (ci := 6) C okM_0 uX6 rfl 0 (Nat.le_of_ble_eq_true rfl) rfl rfl f7 dX6_passes_18 ?_
  refine V_iconst (v := 5) C dX6_passes_21 ci_5 ?_
  refine V_dup2 C dX6_passes_22 rfl rfl ?_
  refine V_iald C okM_1 0 rfl rfl ix_5 vpc_5_214 dX6_passes_23 ?_
  refine V_aload_n C dX6_passes_24 1 rfl ?_
  refine V_get (ci := 6) C okM_0 uX6 rfl 8 (Nat.le_of_ble_eq_true rfl) rfl rfl f32 dX6_passes_25 ?_
  refine V_iconst (v := 0) C dX6_passes_28 ci_0 ?_
  refine V_iald C okM_8 0 rfl rfl ix_0 vpc_0_10 dX6_passes_29 ?_
  refine V_iadd C dX6_passes_30 ?_
  refine V_iast C okM_1 0 rfl (fun _ => rfl) ix_5 vpc_5_214 dX6_passes_31 (fun τ5 hτ5 => ?_)
  replace hJ := hJ τ5 hτ5
  refine V_aload_n C dX6_passes_32 1 rfl ?_
  refine V_get (ci := 6) C okM_0 uX6 rfl 0 (Nat.le_of_ble_eq_true rfl) rfl rfl f7 dX6_passes_33 ?_
  refine V_bipush (v := 6) C dX6_passes_36 cb_6 ?_
  refine V_dup2 C dX6_passes_38 rfl rfl ?_
  refine V_iald C okM_1 0 rfl rfl ix_6 vpc_6_214 dX6_passes_39 ?_
  refine V_iload_n C dX6_passes_40 0 rfl ?_
  refine V_aload_n C dX6_passes_41 1 rfl ?_
  refine V_get (ci := 6) C okM_0 uX6 rfl 8 (Nat.le_of_ble_eq_true rfl) rfl rfl f32 dX6_passes_42 ?_
  refine V_iconst (v := 0) C dX6_passes_45 ci_0 ?_
  refine V_iald C okM_8 0 rfl rfl ix_0 vpc_0_10 dX6_passes_46 ?_
  refine V_isub C dX6_passes_47 ?_
  refine V_iadd C dX6_passes_48 ?_
  refine V_iast C okM_1 0 rfl (fun _ => rfl) ix_6 vpc_6_214 dX6_passes_49 (fun τ6 hτ6 => ?_)
  replace hJ := hJ τ6 hτ6
  refine V_iconst (v := 0) C dX6_passes_50 ci_0 ?_
  refine V_istore_n (lv' := [(2, .int 0), (1, .int x1_4), (0, .ref (ad (0, 0, 0)))]) C dX6_passes_51 (by decide) rfl ?_
  refine V_sub (lv' := [(0, .ref (ad (0, 0, 0))), (2, .int 0)]) [2, 0] rfl ?_
  obtain ⟨I52, μ52, hI52, hst52⟩ := hJ
  have L52 : ∀ (n : Nat) (x2_7 : Int32) (τ7 : Mem), μ52 x2_7 τ7 < n → I52 x2_7 τ7 → VV p l e (headSpec wsX6_passes ({ frames := 4, cells := 0, slots := 0, locals := 89 })).room s m ([.ref (ad (0, 0, 0))] : List Value).toArray below meth c D vwCl idsM ad (ceM tc ad) A (MQ below (va_Qv (fun (u : Mem) => Qr u) (WdO D vwCl idsM ad (ceM tc ad) A) A) ([.ref (ad (0, 0, 0))] : List Value).toArray s 0 0 A) 7 52 [(0, .ref (ad (0, 0, 0))), (2, .int x2_7)] [] τ7 := by
    intro n
    induction n with
    | zero => intro x2_7 τ7 hμ _; exact absurd hμ (Nat.not_lt_zero _)
    | succ n ihn =>
      intro x2_7 τ7 hμ52 hJ
      have ih52 := ihn
      replace hJ := hst52 x2_7 τ7 hJ
      refine V_iload_n C dX6_passes_52 1 rfl ?_
      refine V_aload_n C dX6_passes_53 0 rfl ?_
      refine V_get (ci := 6) C okM_0 uX6 rfl 0 (Nat.le_of_ble_eq_true rfl) rfl rfl f7 dX6_passes_54 ?_
      refine V_iconst (v := 1) C dX6_passes_57 ci_1 ?_
      refine V_iald C okM_1 0 rfl rfl ix_1 vpc_1_214 dX6_passes_58 ?_
      obtain ⟨hJt, hJf⟩ := hJ
      refine V_icmp_ge C (tgt := 91) dX6_passes_59 rfl (fun hc8 => ?_) (fun hc8 => ?_)
      · have hJ := hJt hc8; clear hJt hJf
        refine V_iconst (v := 0) C dX6_passes_91 ci_0 ?_
        refine V_istore_n (lv' := [(2, .int 0), (0, .ref (ad (0, 0, 0)))]) C dX6_passes_92 (by decide) rfl ?_
        refine V_sub (lv' := [(0, .ref (ad (0, 0, 0))), (2, .int 0)]) [1, 0] rfl ?_
        obtain ⟨I93, μ93, hI93, hst93⟩ := hJ
        have L93 : ∀ (n : Nat) (x2_9 : Int32) (τ9 : Mem), μ93 x2_9 τ9 < n → I93 x2_9 τ9 → VV p l e (headSpec wsX6_passes ({ frames := 4, cells := 0, slots := 0, locals := 89 })).room s m ([.ref (ad (0, 0, 0))] : List Value).toArray below meth c D vwCl idsM ad (ceM tc ad) A (MQ below (va_Qv (fun (u : Mem) => Qr u) (WdO D vwCl idsM ad (ceM tc ad) A) A) ([.ref (ad (0, 0, 0))] : List Value).toArray s 0 0 A) 7 93 [(0, .ref (ad (0, 0, 0))), (2, .int x2_9)] [] τ9 := by
          intro n
          induction n with
          | zero => intro x2_9 τ9 hμ _; exact absurd hμ (Nat.not_lt_zero _)
          | succ n ihn =>
            intro x2_9 τ9 hμ93 hJ
            have ih93 := ihn
            replace hJ := hst93 x2_9 τ9 hJ
            refine V_iload_n C dX6_passes_93 1 rfl ?_
            refine V_aload_n C dX6_passes_94 0 rfl ?_
            refine V_get (ci := 6) C okM_0 uX6 rfl 0 (Nat.le_of_ble_eq_true rfl) rfl rfl f7 dX6_passes_95 ?_
            refine V_iconst (v := 2) C dX6_passes_98 ci_2 ?_
            refine V_iald C okM_1 0 rfl rfl ix_2 vpc_2_214 dX6_passes_99 ?_
            obtain ⟨hJt, hJf⟩ := hJ
            refine V_icmp_ge C (tgt := 262) dX6_passes_100 rfl (fun hc10 => ?_) (fun hc10 => ?_)
            · have hJ := hJt hc10; clear hJt hJf
              refine V_aload_n C dX6_passes_262 0 rfl ?_
              refine V_get (ci := 6) C okM_0 uX6 rfl 0 (Nat.le_of_ble_eq_true rfl) rfl rfl f7 dX6_passes_263 ?_
              refine V_iconst (v := 0) C dX6_passes_266 ci_0 ?_
              refine V_dup2 C dX6_passes_267 rfl rfl ?_
              refine V_iald C okM_1 0 rfl rfl ix_0 vpc_0_214 dX6_passes_268 ?_
              refine V_iconst (v := 1) C dX6_passes_269 ci_1 ?_
              refine V_iadd C dX6_passes_270 ?_
              refine V_iast C okM_1 0 rfl (fun _ => rfl) ix_0 vpc_0_214 dX6_passes_271 (fun τ11 hτ11 => ?_)
              replace hJ := hJ τ11 hτ11
              exact V_vret C hr hlocks dX6_passes_272 hJ
            · have hJ := hJf hc10; clear hJt hJf
              refine V_aload_n C dX6_passes_103 0 rfl ?_
              refine V_get (ci := 6) C okM_0 uX6 rfl 7 (Nat.le_of_ble_eq_true rfl) rfl rfl f29 dX6_passes_104 ?_
              refine V_iload_n C dX6_passes_107 1 rfl ?_
              obtain ⟨hv12, hJ⟩ := hJ
              refine V_iald C okM_7 0 rfl rfl rfl hv12 dX6_passes_108 ?_
              refine V_aload_n C dX6_passes_109 0 rfl ?_
              refine V_get (ci := 6) C okM_0 uX6 rfl 0 (Nat.le_of_ble_eq_true rfl) rfl rfl f7 dX6_passes_110 ?_
              refine V_sipush (v := 154) C dX6_passes_113 cs_154 ?_
              refine V_iload_n C dX6_passes_116 1 rfl ?_
              refine V_iadd C dX6_passes_117 ?_
              obtain ⟨hv13, hJ⟩ := hJ
              refine V_iald C okM_1 0 rfl rfl rfl hv13 dX6_passes_118 ?_
              refine V_iadd C dX6_passes_119 ?_
              refine V_topi (fun x3_14 hx3_14 => ?_)
              replace hJ := hJ x3_14 hx3_14
              refine V_istore_n (lv' := [(3, .int x3_14), (0, .ref (ad (0, 0, 0))), (2, .int x2_9)]) C dX6_passes_120 (by decide) rfl ?_
              refine V_aload_n C dX6_passes_121 1 rfl ?_
              refine V_iload_n C dX6_passes_122 2 rfl ?_
              refine V_cVi (st := []) (ci := 6) C okM_0 (M_X6_need l D tc ad A x2_9 hJ) (cwV 1 C.1.2.2.2.2 gX6_passes_X6_need rfl rfl rfl (by decide +kernel) ⟨Nat.le_of_ble_eq_true rfl, Nat.le_of_ble_eq_true rfl⟩) rfl rfl rfl rfl (Nat.le_of_ble_eq_true rfl) dX6_passes_123 (fun r15 τ15 hJ => ?_)
              refine V_istore (lv' := [(4, .int r15), (3, .int x3_14), (0, .ref (ad (0, 0, 0))), (2, .int x2_9)]) C dX6_passes_126 (by decide) rfl ?_
              refine V_iload C dX6_passes_128 0 rfl ?_
              refine V_iload_n C dX6_passes_130 1 rfl ?_
              refine V_cSi (st := []) C (M_X6_least l D tc ad A r15 x3_14 hJ) (va_cwS 2 C.1.2.2.2.2 gX6_passes_X6_least rfl rfl rfl (by decide +kernel) ⟨Nat.le_of_ble_eq_true rfl, Nat.le_of_ble_eq_true rfl⟩) rfl rfl (Nat.le_of_ble_eq_true rfl) dX6_passes_131 (fun r16 τ16 hJ => ?_)
              refine V_istore (lv' := [(5, .int r16), (4, .int r15), (3, .int x3_14), (0, .ref (ad (0, 0, 0))), (2, .int x2_9)]) C dX6_passes_134 (by decide) rfl ?_
              refine V_aload_n C dX6_passes_136 3 rfl ?_
              refine V_get (ci := 6) C okM_0 uX6 rfl 0 (Nat.le_of_ble_eq_true rfl) rfl rfl f7 dX6_passes_137 ?_
              refine V_sipush (v := 166) C dX6_passes_140 cs_166 ?_
              refine V_iload_n C dX6_passes_143 4 rfl ?_
              refine V_iadd C dX6_passes_144 ?_
              obtain ⟨hv17, hJ⟩ := hJ
              refine V_iald C okM_1 0 rfl rfl rfl hv17 dX6_passes_145 ?_
              refine V_iload_n C dX6_passes_146 2 rfl ?_
              refine V_iload C dX6_passes_147 0 rfl ?_
              refine V_isub C dX6_passes_149 ?_
              refine V_cSi (st := []) C (M_X6_least l D tc ad A (τ16 (1, 0, 0) ((166 + x2_9).toNatClampNeg)) (x3_14 - r16) hJ) (va_cwS 2 C.1.2.2.2.2 gX6_passes_X6_least rfl rfl rfl (by decide +kernel) ⟨Nat.le_of_ble_eq_true rfl, Nat.le_of_ble_eq_true rfl⟩) rfl rfl (Nat.le_of_ble_eq_true rfl) dX6_passes_150 (fun r18 τ18 hJ => ?_)
              refine V_istore (lv' := [(6, .int r18), (5, .int r16), (4, .int r15), (3, .int x3_14), (0, .ref (ad (0, 0, 0))), (2, .int x2_9)]) C dX6_passes_153 (by decide) rfl ?_
              refine V_aload_n C dX6_passes_155 4 rfl ?_
              refine V_get (ci := 6) C okM_0 uX6 rfl 0 (Nat.le_of_ble_eq_true rfl) rfl rfl f7 dX6_passes_156 ?_
              refine V_sipush (v := 154) C dX6_passes_159 cs_154 ?_
              refine V_iload_n C dX6_passes_162 5 rfl ?_
              refine V_iadd C dX6_passes_163 ?_
              refine V_iload_n C dX6_passes_164 3 rfl ?_
              refine V_iload C dX6_passes_165 1 rfl ?_
              refine V_isub C dX6_passes_167 ?_
              refine V_iload C dX6_passes_168 0 rfl ?_
              refine V_isub C dX6_passes_170 ?_
              obtain ⟨hv19, hJ⟩ := hJ
              refine V_iast C okM_1 0 rfl (fun _ => rfl) rfl hv19 dX6_passes_171 (fun τ20 hτ20 => ?_)
              replace hJ := hJ τ20 hτ20
              refine V_aload_n C dX6_passes_172 4 rfl ?_
              refine V_get (ci := 6) C okM_0 uX6 rfl 0 (Nat.le_of_ble_eq_true rfl) rfl rfl f7 dX6_passes_173 ?_
              refine V_sipush (v := 190) C dX6_passes_176 cs_190 ?_
              refine V_iload_n C dX6_passes_179 5 rfl ?_
              refine V_iadd C dX6_passes_180 ?_
              refine V_dup2 C dX6_passes_181 rfl rfl ?_
              obtain ⟨hv21, hJ⟩ := hJ
              refine V_iald C okM_1 0 rfl rfl rfl hv21 dX6_passes_182 ?_
              refine V_iload C dX6_passes_183 2 rfl ?_
              refine V_iload C dX6_passes_185 1 rfl ?_
              refine V_isub C dX6_passes_187 ?_
              refine V_iadd C dX6_passes_188 ?_
              obtain ⟨hv22, hJ⟩ := hJ
              refine V_iast C okM_1 0 rfl (fun _ => rfl) rfl hv22 dX6_passes_189 (fun τ23 hτ23 => ?_)
              replace hJ := hJ τ23 hτ23
              refine V_aload_n C dX6_passes_190 4 rfl ?_
              refine V_get (ci := 6) C okM_0 uX6 rfl 0 (Nat.le_of_ble_eq_true rfl) rfl rfl f7 dX6_passes_191 ?_
              refine V_bipush (v := 8) C dX6_passes_194 cb_8 ?_
              refine V_dup2 C dX6_passes_196 rfl rfl ?_
              refine V_iald C okM_1 0 rfl rfl ix_8 vpc_8_214 dX6_passes_197 ?_
              refine V_aload_n C dX6_passes_198 4 rfl ?_
              refine V_get (ci := 6) C okM_0 uX6 rfl 7 (Nat.le_of_ble_eq_true rfl) rfl rfl f29 dX6_passes_199 ?_
              refine V_iload_n C dX6_passes_202 5 rfl ?_
              obtain ⟨hv24, hJ⟩ := hJ
              refine V_iald C okM_7 0 rfl rfl rfl hv24 dX6_passes_203 ?_
              refine V_iadd C dX6_passes_204 ?_
              refine V_iast C okM_1 0 rfl (fun _ => rfl) ix_8 vpc_8_214 dX6_passes_205 (fun τ25 hτ25 => ?_)
              replace hJ := hJ τ25 hτ25
              refine V_aload_n C dX6_passes_206 4 rfl ?_
              refine V_get (ci := 6) C okM_0 uX6 rfl 0 (Nat.le_of_ble_eq_true rfl) rfl rfl f7 dX6_passes_207 ?_
              refine V_bipush (v := 9) C dX6_passes_210 cb_9 ?_
              refine V_dup2 C dX6_passes_212 rfl rfl ?_
              refine V_iald C okM_1 0 rfl rfl ix_9 vpc_9_214 dX6_passes_213 ?_
              refine V_iload C dX6_passes_214 1 rfl ?_
              refine V_iadd C dX6_passes_216 ?_
              refine V_iast C okM_1 0 rfl (fun _ => rfl) ix_9 vpc_9_214 dX6_passes_217 (fun τ26 hτ26 => ?_)
              replace hJ := hJ τ26 hτ26
              refine V_aload_n C dX6_passes_218 4 rfl ?_
              refine V_get (ci := 6) C okM_0 uX6 rfl 0 (Nat.le_of_ble_eq_true rfl) rfl rfl f7 dX6_passes_219 ?_
              refine V_bipush (v := 10) C dX6_passes_222 cb_10 ?_
              refine V_dup2 C dX6_passes_224 rfl rfl ?_
              refine V_iald C okM_1 0 rfl rfl ix_10 vpc_10_214 dX6_passes_225 ?_
              refine V_iload C dX6_passes_226 0 rfl ?_
              refine V_iadd C dX6_passes_228 ?_
              refine V_iast C okM_1 0 rfl (fun _ => rfl) ix_10 vpc_10_214 dX6_passes_229 (fun τ27 hτ27 => ?_)
              replace hJ := hJ τ27 hτ27
              refine V_aload_n C dX6_passes_230 4 rfl ?_
              refine V_get (ci := 6) C okM_0 uX6 rfl 0 (Nat.le_of_ble_eq_true rfl) rfl rfl f7 dX6_passes_231 ?_
              refine V_bipush (v := 11) C dX6_passes_234 cb_11 ?_
              refine V_dup2 C dX6_passes_236 rfl rfl ?_
              refine V_iald C okM_1 0 rfl rfl ix_11 vpc_11_214 dX6_passes_237 ?_
              refine V_iload C dX6_passes_238 2 rfl ?_
              refine V_iload C dX6_passes_240 1 rfl ?_
              refine V_isub C dX6_passes_242 ?_
              refine V_iadd C dX6_passes_243 ?_
              refine V_iast C okM_1 0 rfl (fun _ => rfl) ix_11 vpc_11_214 dX6_passes_244 (fun τ28 hτ28 => ?_)
              replace hJ := hJ τ28 hτ28
              refine V_aload_n C dX6_passes_245 4 rfl ?_
              refine V_get (ci := 6) C okM_0 uX6 rfl 0 (Nat.le_of_ble_eq_true rfl) rfl rfl f7 dX6_passes_246 ?_
              refine V_sipush (v := 202) C dX6_passes_249 cs_202 ?_
              refine V_iload_n C dX6_passes_252 5 rfl ?_
              refine V_iadd C dX6_passes_253 ?_
              refine V_iconst (v := 0) C dX6_passes_254 ci_0 ?_
              obtain ⟨hv29, hJ⟩ := hJ
              refine V_iast C okM_1 0 rfl (fun _ => rfl) rfl hv29 dX6_passes_255 (fun τ30 hτ30 => ?_)
              replace hJ := hJ τ30 hτ30
              obtain ⟨x2_31, hx2_31⟩ : ∃ y : Int32, y = x2_9 + 1 := ⟨_, rfl⟩
              replace hJ := hJ x2_31 hx2_31
              refine V_iinc (v := x2_31) (lv' := [(2, .int x2_31), (6, .int r18), (5, .int r16), (4, .int r15), (3, .int x3_14), (0, .ref (ad (0, 0, 0)))]) C dX6_passes_256 5 rfl (by rw [hx2_31]; exact congrArg _ ci_1) (by decide) rfl ?_
              refine V_goto C (tgt := 93) dX6_passes_259 rfl ?_
              refine V_sub (lv' := [(0, .ref (ad (0, 0, 0))), (2, .int x2_31)]) [5, 0] rfl ?_
              exact ih93 x2_31 τ30 (Nat.lt_of_lt_of_le hJ.2 (Nat.le_of_lt_succ hμ93)) hJ.1
        exact L93 _ 0 τ7 (Nat.lt_succ_self _) hI93
      · have hJ := hJf hc8; clear hJt hJf
        refine V_aload_n C dX6_passes_62 0 rfl ?_
        refine V_get (ci := 6) C okM_0 uX6 rfl 0 (Nat.le_of_ble_eq_true rfl) rfl rfl f7 dX6_passes_63 ?_
        refine V_bipush (v := 7) C dX6_passes_66 cb_7 ?_
        refine V_dup2 C dX6_passes_68 rfl rfl ?_
        refine V_iald C okM_1 0 rfl rfl ix_7 vpc_7_214 dX6_passes_69 ?_
        refine V_aload_n C dX6_passes_70 0 rfl ?_
        refine V_get (ci := 6) C okM_0 uX6 rfl 8 (Nat.le_of_ble_eq_true rfl) rfl rfl f32 dX6_passes_71 ?_
        refine V_iload_n C dX6_passes_74 1 rfl ?_
        obtain ⟨hv32, hJ⟩ := hJ
        refine V_iald C okM_8 0 rfl rfl rfl hv32 dX6_passes_75 ?_
        refine V_aload_n C dX6_passes_76 0 rfl ?_
        refine V_get (ci := 6) C okM_0 uX6 rfl 9 (Nat.le_of_ble_eq_true rfl) rfl rfl f35 dX6_passes_77 ?_
        refine V_iload_n C dX6_passes_80 1 rfl ?_
        obtain ⟨hv33, hJ⟩ := hJ
        refine V_iald C okM_9 0 rfl rfl rfl hv33 dX6_passes_81 ?_
        refine V_isub C dX6_passes_82 ?_
        refine V_iadd C dX6_passes_83 ?_
        refine V_iast C okM_1 0 rfl (fun _ => rfl) ix_7 vpc_7_214 dX6_passes_84 (fun τ34 hτ34 => ?_)
        replace hJ := hJ τ34 hτ34
        obtain ⟨x2_35, hx2_35⟩ : ∃ y : Int32, y = x2_7 + 1 := ⟨_, rfl⟩
        replace hJ := hJ x2_35 hx2_35
        refine V_iinc (v := x2_35) (lv' := [(2, .int x2_35), (0, .ref (ad (0, 0, 0)))]) C dX6_passes_85 1 rfl (by rw [hx2_35]; exact congrArg _ ci_1) (by decide) rfl ?_
        refine V_goto C (tgt := 52) dX6_passes_88 rfl ?_
        refine V_sub (lv' := [(0, .ref (ad (0, 0, 0))), (2, .int x2_35)]) [1, 0] rfl ?_
        exact ih52 x2_35 τ34 (Nat.lt_of_lt_of_le hJ.2 (Nat.le_of_lt_succ hμ52)) hJ.1
  exact L52 _ 0 τ6 (Nat.lt_succ_self _) hI52
set_option maxHeartbeats 4000000 in
set_option maxRecDepth 100000 in
theorem M_X6_advance (l : Launch) (D : va_G) (tc : Nat → ClassId) (ad : Oid → Nat) (A : Nat → Prop) (x1 : Int32) {σ : Mem} {Qr : Int32 → Mem → Prop} (hJ : J_X6_advance x1 σ Qr) : Met l yX6_advance wsX6_advance ({ frames := 5, cells := 0, slots := 0, locals := 115 }) (va_Pc [.ref (ad (0, 0, 0)), .int x1] (WdI D vwCl (tysX tc) idsM ad (ceM tc ad) A σ)) (va_Qi (fun (r : Int32) (u : Mem) => Qr r u) (WdO D vwCl idsM ad (ceM tc ad) A) A) 0 0 A := by
  refine V_meti (cc := cX6_advance) (nL := 4) (ret := (some .int)) (own := RX6) rfl (plainFor_of_name (by decide)) rfl rfl (Nat.le_of_ble_eq_true rfl) ?_
  intro p e s m below meth c C hr hlocks
  refine V_sub (lv' := [(0, .ref (ad (0, 0, 0))), (1, .int x1)]) [0, 1] rfl ?_
  have f7 : Cond.fieldLink RX6 7 (TX6 0).1 (TX6 0).2.1 (TX6 0).2.2.1 ∈ wsX6_advance := List.mem_of_getElem? (i := 1) rfl
  have uX6 : ∀ w ∈ u_ws RX6 TX6 12, w ∈ wsX6_advance := by decide +kernel
  unfold J_X6_advance at hJ
  refine V_iload_n C dX6_advance_0 1 rfl ?_
  refine V_iconst (v := 1) C dX6_advance_1 ci_1 ?_
  refine V_bipush (v := 48) C dX6_advance_2 cb_48 ?_
  refine V_cSi (st := []) C (M_X6_in l D tc ad A x1 1 48 hJ) (va_cwS 3 C.1.2.2.2.2 gX6_advance_X6_in rfl rfl rfl (by decide +kernel) ⟨Nat.le_of_ble_eq_true rfl, Nat.le_of_ble_eq_true rfl⟩) rfl rfl (Nat.le_of_ble_eq_true rfl) dX6_advance_4 (fun r1 τ1 hJ => ?_)
  obtain ⟨hJt, hJf⟩ := hJ
  refine V_if_ne C (tgt := 13) dX6_advance_7 rfl (fun hc2 => ?_) (fun hc2 => ?_)
  · have hJ := hJt hc2; clear hJt hJf
    refine V_aload_n C dX6_advance_13 0 rfl ?_
    refine V_get (ci := 6) C okM_0 uX6 rfl 0 (Nat.le_of_ble_eq_true rfl) rfl rfl f7 dX6_advance_14 ?_
    refine V_bipush (v := 11) C dX6_advance_17 cb_11 ?_
    refine V_iald C okM_1 0 rfl rfl ix_11 vpc_11_214 dX6_advance_19 ?_
    refine V_topi (fun x2_3 hx2_3 => ?_)
    replace hJ := hJ x2_3 hx2_3
    refine V_istore_n (lv' := [(2, .int x2_3), (0, .ref (ad (0, 0, 0))), (1, .int x1)]) C dX6_advance_20 (by decide) rfl ?_
    refine V_iconst (v := 0) C dX6_advance_21 ci_0 ?_
    refine V_istore_n (lv' := [(3, .int 0), (2, .int x2_3), (0, .ref (ad (0, 0, 0))), (1, .int x1)]) C dX6_advance_22 (by decide) rfl ?_
    refine V_sub (lv' := [(0, .ref (ad (0, 0, 0))), (1, .int x1), (2, .int x2_3), (3, .int 0)]) [2, 3, 1, 0] rfl ?_
    obtain ⟨I23, μ23, hI23, hst23⟩ := hJ
    have L23 : ∀ (n : Nat) (x3_4 : Int32) (τ4 : Mem), μ23 x3_4 τ4 < n → I23 x3_4 τ4 → VV p l e (headSpec wsX6_advance ({ frames := 5, cells := 0, slots := 0, locals := 115 })).room s m ([.ref (ad (0, 0, 0)), .int x1] : List Value).toArray below meth c D vwCl idsM ad (ceM tc ad) A (MQ below (va_Qi (fun (r : Int32) (u : Mem) => Qr r u) (WdO D vwCl idsM ad (ceM tc ad) A) A) ([.ref (ad (0, 0, 0)), .int x1] : List Value).toArray s 0 0 A) 4 23 [(0, .ref (ad (0, 0, 0))), (1, .int x1), (2, .int x2_3), (3, .int x3_4)] [] τ4 := by
      intro n
      induction n with
      | zero => intro x3_4 τ4 hμ _; exact absurd hμ (Nat.not_lt_zero _)
      | succ n ihn =>
        intro x3_4 τ4 hμ23 hJ
        have ih23 := ihn
        replace hJ := hst23 x3_4 τ4 hJ
        refine V_iload_n C dX6_advance_23 3 rfl ?_
        refine V_iload_n C dX6_advance_24 1 rfl ?_
        obtain ⟨hJt, hJf⟩ := hJ
        refine V_icmp_ge C (tgt := 38) dX6_advance_25 rfl (fun hc5 => ?_) (fun hc5 => ?_)
        · have hJ := hJt hc5; clear hJt hJf
          refine V_aload_n C dX6_advance_38 0 rfl ?_
          refine V_get (ci := 6) C okM_0 uX6 rfl 0 (Nat.le_of_ble_eq_true rfl) rfl rfl f7 dX6_advance_39 ?_
          refine V_bipush (v := 11) C dX6_advance_42 cb_11 ?_
          refine V_iald C okM_1 0 rfl rfl ix_11 vpc_11_214 dX6_advance_44 ?_
          refine V_iload_n C dX6_advance_45 2 rfl ?_
          refine V_isub C dX6_advance_46 ?_
          exact V_iret C hr hlocks dX6_advance_47 hJ
        · have hJ := hJf hc5; clear hJt hJf
          refine V_aload_n C dX6_advance_28 0 rfl ?_
          refine V_cVv (st := []) (ci := 6) C okM_0 (M_X6_passes l D tc ad A  hJ) (cwV 0 C.1.2.2.2.2 gX6_advance_X6_passes rfl rfl rfl (by decide +kernel) ⟨Nat.le_of_ble_eq_true rfl, Nat.le_of_ble_eq_true rfl⟩) rfl rfl rfl rfl (Nat.le_of_ble_eq_true rfl) dX6_advance_29 (fun τ6 hJ => ?_)
          obtain ⟨x3_7, hx3_7⟩ : ∃ y : Int32, y = x3_4 + 1 := ⟨_, rfl⟩
          replace hJ := hJ x3_7 hx3_7
          refine V_iinc (v := x3_7) (lv' := [(3, .int x3_7), (0, .ref (ad (0, 0, 0))), (1, .int x1), (2, .int x2_3)]) C dX6_advance_32 3 rfl (by rw [hx3_7]; exact congrArg _ ci_1) (by decide) rfl ?_
          refine V_goto C (tgt := 23) dX6_advance_35 rfl ?_
          refine V_sub (lv' := [(0, .ref (ad (0, 0, 0))), (1, .int x1), (2, .int x2_3), (3, .int x3_7)]) [1, 2, 3, 0] rfl ?_
          exact ih23 x3_7 τ6 (Nat.lt_of_lt_of_le hJ.2 (Nat.le_of_lt_succ hμ23)) hJ.1
    exact L23 _ 0 τ1 (Nat.lt_succ_self _) hI23
  · have hJ := hJf hc2; clear hJt hJf
    refine V_bipush (v := (-102)) C dX6_advance_10 cb_m102 ?_
    exact V_iret C hr hlocks dX6_advance_12 hJ
set_option maxHeartbeats 4000000 in
set_option maxRecDepth 100000 in
theorem M_X6_all (l : Launch) (D : va_G) (tc : Nat → ClassId) (ad : Oid → Nat) (A : Nat → Prop) {σ : Mem} {Qr : Int32 → Mem → Prop} (hJ : J_X6_all σ Qr) : Met l yX6_all wsX6_all ({ frames := 0, cells := 0, slots := 0, locals := 0 }) (va_Pc [.ref (ad (0, 0, 0))] (WdI D vwCl (tysX tc) idsM ad (ceM tc ad) A σ)) (va_Qi (fun (r : Int32) (u : Mem) => Qr r u) (WdO D vwCl idsM ad (ceM tc ad) A) A) 0 0 A := by
  refine V_meti (cc := cX6_all) (nL := 3) (ret := (some .int)) (own := RX6) rfl (plainFor_of_name (by decide)) rfl rfl (Nat.le_of_ble_eq_true rfl) ?_
  intro p e s m below meth c C hr hlocks
  refine V_sub (lv' := [(0, .ref (ad (0, 0, 0)))]) [0] rfl ?_
  have f7 : Cond.fieldLink RX6 7 (TX6 0).1 (TX6 0).2.1 (TX6 0).2.2.1 ∈ wsX6_all := List.mem_of_getElem? (i := 1) rfl
  have uX6 : ∀ w ∈ u_ws RX6 TX6 12, w ∈ wsX6_all := by decide +kernel
  have f29 : Cond.fieldLink RX6 29 (TX6 7).1 (TX6 7).2.1 (TX6 7).2.2.1 ∈ wsX6_all := List.mem_of_getElem? (i := 2) rfl
  unfold J_X6_all at hJ
  refine V_iconst (v := 0) C dX6_all_0 ci_0 ?_
  refine V_istore_n (lv' := [(1, .int 0), (0, .ref (ad (0, 0, 0)))]) C dX6_all_1 (by decide) rfl ?_
  refine V_iconst (v := 0) C dX6_all_2 ci_0 ?_
  refine V_istore_n (lv' := [(2, .int 0), (1, .int 0), (0, .ref (ad (0, 0, 0)))]) C dX6_all_3 (by decide) rfl ?_
  refine V_sub (lv' := [(0, .ref (ad (0, 0, 0))), (1, .int 0), (2, .int 0)]) [2, 1, 0] rfl ?_
  obtain ⟨I4, μ4, hI4, hst4⟩ := hJ
  have L4 : ∀ (n : Nat) (x1_1 : Int32) (x2_1 : Int32), μ4 x1_1 x2_1 < n → I4 x1_1 x2_1 → VV p l e (headSpec wsX6_all ({ frames := 0, cells := 0, slots := 0, locals := 0 })).room s m ([.ref (ad (0, 0, 0))] : List Value).toArray below meth c D vwCl idsM ad (ceM tc ad) A (MQ below (va_Qi (fun (r : Int32) (u : Mem) => Qr r u) (WdO D vwCl idsM ad (ceM tc ad) A) A) ([.ref (ad (0, 0, 0))] : List Value).toArray s 0 0 A) 3 4 [(0, .ref (ad (0, 0, 0))), (1, .int x1_1), (2, .int x2_1)] [] σ := by
    intro n
    induction n with
    | zero => intro x1_1 x2_1 hμ _; exact absurd hμ (Nat.not_lt_zero _)
    | succ n ihn =>
      intro x1_1 x2_1 hμ4 hJ
      have ih4 := ihn
      replace hJ := hst4 x1_1 x2_1 hJ
      refine V_iload_n C dX6_all_4 2 rfl ?_
      refine V_aload_n C dX6_all_5 0 rfl ?_
      refine V_get (ci := 6) C okM_0 uX6 rfl 0 (Nat.le_of_ble_eq_true rfl) rfl rfl f7 dX6_all_6 ?_
      refine V_iconst (v := 2) C dX6_all_9 ci_2 ?_
      refine V_iald C okM_1 0 rfl rfl ix_2 vpc_2_214 dX6_all_10 ?_
      obtain ⟨hJt, hJf⟩ := hJ
      refine V_icmp_ge C (tgt := 29) dX6_all_11 rfl (fun hc2 => ?_) (fun hc2 => ?_)
      · have hJ := hJt hc2; clear hJt hJf
        refine V_iload_n C dX6_all_29 1 rfl ?_
        exact V_iret C hr hlocks dX6_all_30 hJ
      · have hJ := hJf hc2; clear hJt hJf
        refine V_iload_n C dX6_all_14 1 rfl ?_
        refine V_aload_n C dX6_all_15 0 rfl ?_
        refine V_get (ci := 6) C okM_0 uX6 rfl 7 (Nat.le_of_ble_eq_true rfl) rfl rfl f29 dX6_all_16 ?_
        refine V_iload_n C dX6_all_19 2 rfl ?_
        obtain ⟨hv3, hJ⟩ := hJ
        refine V_iald C okM_7 0 rfl rfl rfl hv3 dX6_all_20 ?_
        refine V_iadd C dX6_all_21 ?_
        refine V_topi (fun x1_4 hx1_4 => ?_)
        replace hJ := hJ x1_4 hx1_4
        refine V_istore_n (lv' := [(1, .int x1_4), (0, .ref (ad (0, 0, 0))), (2, .int x2_1)]) C dX6_all_22 (by decide) rfl ?_
        obtain ⟨x2_5, hx2_5⟩ : ∃ y : Int32, y = x2_1 + 1 := ⟨_, rfl⟩
        replace hJ := hJ x2_5 hx2_5
        refine V_iinc (v := x2_5) (lv' := [(2, .int x2_5), (1, .int x1_4), (0, .ref (ad (0, 0, 0)))]) C dX6_all_23 2 rfl (by rw [hx2_5]; exact congrArg _ ci_1) (by decide) rfl ?_
        refine V_goto C (tgt := 4) dX6_all_26 rfl ?_
        refine V_sub (lv' := [(0, .ref (ad (0, 0, 0))), (1, .int x1_4), (2, .int x2_5)]) [2, 1, 0] rfl ?_
        exact ih4 x1_4 x2_5 (Nat.lt_of_lt_of_le hJ.2 (Nat.le_of_lt_succ hμ4)) hJ.1
  exact L4 _ 0 0 (Nat.lt_succ_self _) hI4
set_option maxHeartbeats 4000000 in
set_option maxRecDepth 100000 in
theorem M_X6_append (l : Launch) (D : va_G) (tc : Nat → ClassId) (ad : Oid → Nat) (A : Nat → Prop) (x1 : Int32) {σ : Mem} {Qr : Int32 → Mem → Prop} (hJ : J_X6_append x1 σ Qr) : Met l yX6_append wsX6_append ({ frames := 1, cells := 0, slots := 0, locals := 22 }) (va_Pc [.ref (ad (0, 0, 0)), .int x1] (WdI D vwCl (tysX tc) idsM ad (ceM tc ad) A σ)) (va_Qi (fun (r : Int32) (u : Mem) => Qr r u) (WdO D vwCl idsM ad (ceM tc ad) A) A) 0 0 A := by
  refine V_meti (cc := cX6_append) (nL := 2) (ret := (some .int)) (own := RX6) rfl (plainFor_of_name (by decide)) rfl rfl (Nat.le_of_ble_eq_true rfl) ?_
  intro p e s m below meth c C hr hlocks
  refine V_sub (lv' := [(0, .ref (ad (0, 0, 0))), (1, .int x1)]) [0, 1] rfl ?_
  have f128 : Cond.fieldLink RX6 128 (TX6 5).1 (TX6 5).2.1 (TX6 5).2.2.1 ∈ wsX6_append := List.mem_of_getElem? (i := 1) rfl
  have uX6 : ∀ w ∈ u_ws RX6 TX6 12, w ∈ wsX6_append := by decide +kernel
  have f23 : Cond.fieldLink RX6 23 (TX6 4).1 (TX6 4).2.1 (TX6 4).2.2.1 ∈ wsX6_append := List.mem_of_getElem? (i := 2) rfl
  unfold J_X6_append at hJ
  refine V_iload_n C dX6_append_0 1 rfl ?_
  refine V_iconst (v := 0) C dX6_append_1 ci_0 ?_
  refine V_bipush (v := 127) C dX6_append_2 cb_127 ?_
  refine V_cSi (st := []) C (M_X6_in l D tc ad A x1 0 127 hJ) (va_cwS 3 C.1.2.2.2.2 gX6_append_X6_in rfl rfl rfl (by decide +kernel) ⟨Nat.le_of_ble_eq_true rfl, Nat.le_of_ble_eq_true rfl⟩) rfl rfl (Nat.le_of_ble_eq_true rfl) dX6_append_4 (fun r1 τ1 hJ => ?_)
  obtain ⟨hJt, hJf⟩ := hJ
  refine V_if_ne C (tgt := 13) dX6_append_7 rfl (fun hc2 => ?_) (fun hc2 => ?_)
  · have hJ := hJt hc2; clear hJt hJf
    refine V_aload_n C dX6_append_13 0 rfl ?_
    refine V_get (ci := 6) C okM_0 uX6 rfl 5 (Nat.le_of_ble_eq_true rfl) rfl rfl f128 dX6_append_14 ?_
    refine V_bipush (v := 100) C dX6_append_17 cb_100 ?_
    obtain ⟨hJt, hJf⟩ := hJ
    refine V_icmp_ne C (tgt := 25) dX6_append_19 rfl (fun hc3 => ?_) (fun hc3 => ?_)
    · have hJ := hJt hc3; clear hJt hJf
      refine V_aload_n C dX6_append_25 0 rfl ?_
      refine V_get (ci := 6) C okM_0 uX6 rfl 4 (Nat.le_of_ble_eq_true rfl) rfl rfl f23 dX6_append_26 ?_
      refine V_aload_n C dX6_append_29 0 rfl ?_
      refine V_get (ci := 6) C okM_0 uX6 rfl 5 (Nat.le_of_ble_eq_true rfl) rfl rfl f128 dX6_append_30 ?_
      refine V_iload_n C dX6_append_33 1 rfl ?_
      obtain ⟨hv4, hJ⟩ := hJ
      refine V_iast C okM_5 0 rfl (fun _ => rfl) rfl hv4 dX6_append_34 (fun τ5 hτ5 => ?_)
      replace hJ := hJ τ5 hτ5
      refine V_aload_n C dX6_append_35 0 rfl ?_
      refine V_dup C dX6_append_36 rfl ?_
      refine V_get (ci := 6) C okM_0 uX6 rfl 5 (Nat.le_of_ble_eq_true rfl) rfl rfl f128 dX6_append_37 ?_
      refine V_iconst (v := 1) C dX6_append_40 ci_1 ?_
      refine V_iadd C dX6_append_41 ?_
      refine V_put (ci := 6) C okM_0 uX6 tyX6 tyX6_ok nmX6 rfl 5 (Nat.le_of_ble_eq_true rfl) rfl rfl f128 rfl (ty := .int) (by decide +kernel) rfl rfl (Nat.le_of_ble_eq_true rfl) dX6_append_42 (fun τ6 hτ6 => ?_)
      replace hJ := hJ τ6 hτ6
      refine V_aload_n C dX6_append_45 0 rfl ?_
      refine V_get (ci := 6) C okM_0 uX6 rfl 5 (Nat.le_of_ble_eq_true rfl) rfl rfl f128 dX6_append_46 ?_
      exact V_iret C hr hlocks dX6_append_49 hJ
    · have hJ := hJf hc3; clear hJt hJf
      refine V_bipush (v := (-104)) C dX6_append_22 cb_m104 ?_
      exact V_iret C hr hlocks dX6_append_24 hJ
  · have hJ := hJf hc2; clear hJt hJf
    refine V_bipush (v := (-102)) C dX6_append_10 cb_m102 ?_
    exact V_iret C hr hlocks dX6_append_12 hJ
set_option maxHeartbeats 4000000 in
set_option maxRecDepth 100000 in
theorem M_X6_isUser (l : Launch) (D : va_G) (tc : Nat → ClassId) (ad : Oid → Nat) (A : Nat → Prop) (x1 : Int32) {σ : Mem} {Qr : Int32 → Mem → Prop} (hJ : J_X6_isUser x1 σ Qr) : Met l yX6_isUser wsX6_isUser ({ frames := 1, cells := 0, slots := 0, locals := 22 }) (va_Pc [.ref (ad (0, 0, 0)), .int x1] (WdI D vwCl (tysX tc) idsM ad (ceM tc ad) A σ)) (va_Qi (fun (r : Int32) (u : Mem) => Qr r u) (WdO D vwCl idsM ad (ceM tc ad) A) A) 0 0 A := by
  refine V_meti (cc := cX6_isUser) (nL := 2) (ret := (some .boolean)) (own := RX6) rfl (plainFor_of_name (by decide)) rfl rfl (Nat.le_of_ble_eq_true rfl) ?_
  intro p e s m below meth c C hr hlocks
  refine V_sub (lv' := [(0, .ref (ad (0, 0, 0))), (1, .int x1)]) [0, 1] rfl ?_
  have f7 : Cond.fieldLink RX6 7 (TX6 0).1 (TX6 0).2.1 (TX6 0).2.2.1 ∈ wsX6_isUser := List.mem_of_getElem? (i := 1) rfl
  have uX6 : ∀ w ∈ u_ws RX6 TX6 12, w ∈ wsX6_isUser := by decide +kernel
  unfold J_X6_isUser at hJ
  refine V_iload_n C dX6_isUser_0 1 rfl ?_
  refine V_iconst (v := 0) C dX6_isUser_1 ci_0 ?_
  refine V_aload_n C dX6_isUser_2 0 rfl ?_
  refine V_get (ci := 6) C okM_0 uX6 rfl 0 (Nat.le_of_ble_eq_true rfl) rfl rfl f7 dX6_isUser_3 ?_
  refine V_iconst (v := 2) C dX6_isUser_6 ci_2 ?_
  refine V_iald C okM_1 0 rfl rfl ix_2 vpc_2_214 dX6_isUser_7 ?_
  refine V_iconst (v := 1) C dX6_isUser_8 ci_1 ?_
  refine V_isub C dX6_isUser_9 ?_
  refine V_cSi (st := []) C (M_X6_in l D tc ad A x1 0 ((σ (1, 0, 0) 2) - 1) hJ) (va_cwS 3 C.1.2.2.2.2 gX6_isUser_X6_in rfl rfl rfl (by decide +kernel) ⟨Nat.le_of_ble_eq_true rfl, Nat.le_of_ble_eq_true rfl⟩) rfl rfl (Nat.le_of_ble_eq_true rfl) dX6_isUser_10 (fun r1 τ1 hJ => ?_)
  obtain ⟨hb2, hJ⟩ := hJ
  exact V_zret C hr hlocks hb2 dX6_isUser_13 hJ
set_option maxHeartbeats 4000000 in
set_option maxRecDepth 100000 in
theorem M_X6_asks (l : Launch) (D : va_G) (tc : Nat → ClassId) (ad : Oid → Nat) (A : Nat → Prop) (x1 : Int32) {σ : Mem} {Qr : Int32 → Mem → Prop} (hJ : J_X6_asks x1 σ Qr) : Met l yX6_asks wsX6_asks ({ frames := 3, cells := 0, slots := 0, locals := 66 }) (va_Pc [.ref (ad (0, 0, 0)), .int x1] (WdI D vwCl (tysX tc) idsM ad (ceM tc ad) A σ)) (va_Qi (fun (r : Int32) (u : Mem) => Qr r u) (WdO D vwCl idsM ad (ceM tc ad) A) A) 0 0 A := by
  refine V_meti (cc := cX6_asks) (nL := 2) (ret := (some .int)) (own := RX6) rfl (plainFor_of_name (by decide)) rfl rfl (Nat.le_of_ble_eq_true rfl) ?_
  intro p e s m below meth c C hr hlocks
  refine V_sub (lv' := [(0, .ref (ad (0, 0, 0))), (1, .int x1)]) [0, 1] rfl ?_
  have f26 : Cond.fieldLink RX6 26 (TX6 6).1 (TX6 6).2.1 (TX6 6).2.2.1 ∈ wsX6_asks := List.mem_of_getElem? (i := 1) rfl
  have uX6 : ∀ w ∈ u_ws RX6 TX6 12, w ∈ wsX6_asks := by decide +kernel
  unfold J_X6_asks at hJ
  refine V_aload_n C dX6_asks_0 0 rfl ?_
  refine V_iload_n C dX6_asks_1 1 rfl ?_
  refine V_cVi (st := []) (ci := 6) C okM_0 (M_X6_isUser l D tc ad A x1 hJ) (cwV 1 C.1.2.2.2.2 gX6_asks_X6_isUser rfl rfl rfl (by decide +kernel) ⟨Nat.le_of_ble_eq_true rfl, Nat.le_of_ble_eq_true rfl⟩) rfl rfl rfl rfl (Nat.le_of_ble_eq_true rfl) dX6_asks_2 (fun r1 τ1 hJ => ?_)
  obtain ⟨hJt, hJf⟩ := hJ
  refine V_if_ne C (tgt := 11) dX6_asks_5 rfl (fun hc2 => ?_) (fun hc2 => ?_)
  · have hJ := hJt hc2; clear hJt hJf
    refine V_aload_n C dX6_asks_11 0 rfl ?_
    refine V_cVv (st := []) (ci := 6) C okM_0 (M_X6_findAsked l D tc ad A  hJ) (cwV 0 C.1.2.2.2.2 gX6_asks_X6_findAsked rfl rfl rfl (by decide +kernel) ⟨Nat.le_of_ble_eq_true rfl, Nat.le_of_ble_eq_true rfl⟩) rfl rfl rfl rfl (Nat.le_of_ble_eq_true rfl) dX6_asks_12 (fun τ3 hJ => ?_)
    refine V_aload_n C dX6_asks_15 0 rfl ?_
    refine V_get (ci := 6) C okM_0 uX6 rfl 6 (Nat.le_of_ble_eq_true rfl) rfl rfl f26 dX6_asks_16 ?_
    refine V_iload_n C dX6_asks_19 1 rfl ?_
    obtain ⟨hv4, hJ⟩ := hJ
    refine V_iald C okM_6 0 rfl rfl rfl hv4 dX6_asks_20 ?_
    exact V_iret C hr hlocks dX6_asks_21 hJ
  · have hJ := hJf hc2; clear hJt hJf
    refine V_bipush (v := (-101)) C dX6_asks_8 cb_m101 ?_
    exact V_iret C hr hlocks dX6_asks_10 hJ
set_option maxHeartbeats 4000000 in
set_option maxRecDepth 100000 in
theorem M_X6_brings (l : Launch) (D : va_G) (tc : Nat → ClassId) (ad : Oid → Nat) (A : Nat → Prop) {σ : Mem} {Qr : Mem → Prop} (hJ : J_X6_brings σ Qr) : Met l yX6_brings wsX6_brings ({ frames := 0, cells := 0, slots := 0, locals := 0 }) (va_Pc [.ref (ad (0, 0, 0))] (WdI D vwCl (tysX tc) idsM ad (ceM tc ad) A σ)) (va_Qv (fun (u : Mem) => Qr u) (WdO D vwCl idsM ad (ceM tc ad) A) A) 0 0 A := by
  refine V_metv (cc := cX6_brings) (nL := 2) (ret := none) (own := RX6) rfl (plainFor_of_name (by decide)) rfl rfl (Nat.le_of_ble_eq_true rfl) ?_
  intro p e s m below meth c C hr hlocks
  refine V_sub (lv' := [(0, .ref (ad (0, 0, 0)))]) [0] rfl ?_
  have f7 : Cond.fieldLink RX6 7 (TX6 0).1 (TX6 0).2.1 (TX6 0).2.2.1 ∈ wsX6_brings := List.mem_of_getElem? (i := 1) rfl
  have uX6 : ∀ w ∈ u_ws RX6 TX6 12, w ∈ wsX6_brings := by decide +kernel
  have f13 : Cond.fieldLink RX6 13 (TX6 1).1 (TX6 1).2.1 (TX6 1).2.2.1 ∈ wsX6_brings := List.mem_of_getElem? (i := 2) rfl
  unfold J_X6_brings at hJ
  refine V_iconst (v := 0) C dX6_brings_0 ci_0 ?_
  refine V_istore_n (lv' := [(1, .int 0), (0, .ref (ad (0, 0, 0)))]) C dX6_brings_1 (by decide) rfl ?_
  refine V_sub (lv' := [(0, .ref (ad (0, 0, 0))), (1, .int 0)]) [1, 0] rfl ?_
  obtain ⟨I2, μ2, hI2, hst2⟩ := hJ
  have L2 : ∀ (n : Nat) (x1_1 : Int32) (τ1 : Mem), μ2 x1_1 τ1 < n → I2 x1_1 τ1 → VV p l e (headSpec wsX6_brings ({ frames := 0, cells := 0, slots := 0, locals := 0 })).room s m ([.ref (ad (0, 0, 0))] : List Value).toArray below meth c D vwCl idsM ad (ceM tc ad) A (MQ below (va_Qv (fun (u : Mem) => Qr u) (WdO D vwCl idsM ad (ceM tc ad) A) A) ([.ref (ad (0, 0, 0))] : List Value).toArray s 0 0 A) 2 2 [(0, .ref (ad (0, 0, 0))), (1, .int x1_1)] [] τ1 := by
    intro n
    induction n with
    | zero => intro x1_1 τ1 hμ _; exact absurd hμ (Nat.not_lt_zero _)
    | succ n ihn =>
      intro x1_1 τ1 hμ2 hJ
      have ih2 := ihn
      replace hJ := hst2 x1_1 τ1 hJ
      refine V_iload_n C dX6_brings_2 1 rfl ?_
      refine V_sipush (v := 214) C dX6_brings_3 cs_214 ?_
      obtain ⟨hJt, hJf⟩ := hJ
      refine V_icmp_ge C (tgt := 27) dX6_brings_6 rfl (fun hc2 => ?_) (fun hc2 => ?_)
      · have hJ := hJt hc2; clear hJt hJf
        exact V_vret C hr hlocks dX6_brings_27 hJ
      · have hJ := hJf hc2; clear hJt hJf
        refine V_aload_n C dX6_brings_9 0 rfl ?_
        refine V_get (ci := 6) C okM_0 uX6 rfl 0 (Nat.le_of_ble_eq_true rfl) rfl rfl f7 dX6_brings_10 ?_
        refine V_iload_n C dX6_brings_13 1 rfl ?_
        refine V_aload_n C dX6_brings_14 0 rfl ?_
        refine V_get (ci := 6) C okM_0 uX6 rfl 1 (Nat.le_of_ble_eq_true rfl) rfl rfl f13 dX6_brings_15 ?_
        refine V_iload_n C dX6_brings_18 1 rfl ?_
        obtain ⟨hv3, hJ⟩ := hJ
        refine V_iald C okM_2 0 rfl rfl rfl hv3 dX6_brings_19 ?_
        obtain ⟨hv4, hJ⟩ := hJ
        refine V_iast C okM_1 0 rfl (fun _ => rfl) rfl hv4 dX6_brings_20 (fun τ5 hτ5 => ?_)
        replace hJ := hJ τ5 hτ5
        obtain ⟨x1_6, hx1_6⟩ : ∃ y : Int32, y = x1_1 + 1 := ⟨_, rfl⟩
        replace hJ := hJ x1_6 hx1_6
        refine V_iinc (v := x1_6) (lv' := [(1, .int x1_6), (0, .ref (ad (0, 0, 0)))]) C dX6_brings_21 1 rfl (by rw [hx1_6]; exact congrArg _ ci_1) (by decide) rfl ?_
        refine V_goto C (tgt := 2) dX6_brings_24 rfl ?_
        refine V_sub (lv' := [(0, .ref (ad (0, 0, 0))), (1, .int x1_6)]) [1, 0] rfl ?_
        exact ih2 x1_6 τ5 (Nat.lt_of_lt_of_le hJ.2 (Nat.le_of_lt_succ hμ2)) hJ.1
  exact L2 _ 0 σ (Nat.lt_succ_self _) hI2
set_option maxHeartbeats 4000000 in
set_option maxRecDepth 100000 in
theorem M_X6_more (l : Launch) (D : va_G) (tc : Nat → ClassId) (ad : Oid → Nat) (A : Nat → Prop) (y0 : Int64) (x2 : Int32) {σ : Mem} {Qr : Int64 → Mem → Prop} (hJ : J_X6_more y0 x2 σ Qr) : Met l yX6_more wsX6_more ({ frames := 0, cells := 0, slots := 0, locals := 0 }) (va_Pc [.long y0, .int x2] (WdI D vwCl (tysX tc) idsM ad (ceM tc ad) A σ)) (va_Ql (fun (r : Int64) (u : Mem) => Qr r u) (WdO D vwCl idsM ad (ceM tc ad) A) A) 0 0 A := by
  refine V_metl (cc := cX6_more) (nL := 3) (ret := (some .long)) (own := RX6) rfl (plainFor_of_name (by decide)) rfl rfl (Nat.le_of_ble_eq_true rfl) ?_
  intro p e s m below meth c C hr hlocks
  refine V_sub (lv' := [(0, .long y0), (2, .int x2)]) [0, 1] rfl ?_
  unfold J_X6_more at hJ
  refine V_ldc2 (v := 31) C (List.mem_of_getElem? (i := 1) rfl) dX6_more_0 ?_
  refine V_lload_n C dX6_more_3 0 rfl ?_
  refine V_lmul C dX6_more_4 ?_
  refine V_iload_n C dX6_more_5 1 rfl ?_
  refine V_i2l C dX6_more_6 ?_
  refine V_ladd C dX6_more_7 ?_
  exact V_lret C hr hlocks dX6_more_8 hJ
set_option maxHeartbeats 4000000 in
set_option maxRecDepth 100000 in
theorem M_X6_turn (l : Launch) (D : va_G) (tc : Nat → ClassId) (ad : Oid → Nat) (A : Nat → Prop) {σ : Mem} {Qr : Int32 → Mem → Prop} (hJ : J_X6_turn σ Qr) : Met l yX6_turn wsX6_turn ({ frames := 1, cells := 0, slots := 0, locals := 23 }) (va_Pc [.ref (ad (0, 0, 0))] (WdI D vwCl (tysX tc) idsM ad (ceM tc ad) A σ)) (va_Qi (fun (r : Int32) (u : Mem) => Qr r u) (WdO D vwCl idsM ad (ceM tc ad) A) A) 0 0 A := by
  refine V_meti (cc := cX6_turn) (nL := 2) (ret := (some .int)) (own := RX6) rfl (plainFor_of_name (by decide)) rfl rfl (Nat.le_of_ble_eq_true rfl) ?_
  intro p e s m below meth c C hr hlocks
  refine V_sub (lv' := [(0, .ref (ad (0, 0, 0)))]) [0] rfl ?_
  unfold J_X6_turn at hJ
  refine V_aload_n C dX6_turn_0 0 rfl ?_
  refine V_cVi (st := []) (ci := 6) C okM_0 (M_X6_turnNow l D tc ad A  hJ) (cwV 0 C.1.2.2.2.2 gX6_turn_X6_turnNow rfl rfl rfl (by decide +kernel) ⟨Nat.le_of_ble_eq_true rfl, Nat.le_of_ble_eq_true rfl⟩) rfl rfl rfl rfl (Nat.le_of_ble_eq_true rfl) dX6_turn_1 (fun r1 τ1 hJ => ?_)
  refine V_istore_n (lv' := [(1, .int r1), (0, .ref (ad (0, 0, 0)))]) C dX6_turn_4 (by decide) rfl ?_
  refine V_iload_n C dX6_turn_5 0 rfl ?_
  obtain ⟨hJt, hJf⟩ := hJ
  refine V_if_ge C (tgt := 14) dX6_turn_6 rfl (fun hc2 => ?_) (fun hc2 => ?_)
  · have hJ := hJt hc2; clear hJt hJf
    refine V_iload_n C dX6_turn_14 0 rfl ?_
    exact V_iret C hr hlocks dX6_turn_15 hJ
  · have hJ := hJf hc2; clear hJt hJf
    refine V_bipush (v := (-105)) C dX6_turn_9 cb_m105 ?_
    refine V_goto C (tgt := 15) dX6_turn_11 rfl ?_
    exact V_iret C hr hlocks dX6_turn_15 hJ
set_option maxHeartbeats 4000000 in
set_option maxRecDepth 100000 in
theorem M_X6_checksum (l : Launch) (D : va_G) (tc : Nat → ClassId) (ad : Oid → Nat) (A : Nat → Prop) {σ : Mem} {Qr : Int64 → Mem → Prop} (hJ : J_X6_checksum σ Qr) : Met l yX6_checksum wsX6_checksum ({ frames := 4, cells := 0, slots := 0, locals := 89 }) (va_Pc [.ref (ad (0, 0, 0))] (WdI D vwCl (tysX tc) idsM ad (ceM tc ad) A σ)) (va_Ql (fun (r : Int64) (u : Mem) => Qr r u) (WdO D vwCl idsM ad (ceM tc ad) A) A) 0 0 A := by
  refine V_metl (cc := cX6_checksum) (nL := 4) (ret := (some .long)) (own := RX6) rfl (plainFor_of_name (by decide)) rfl rfl (Nat.le_of_ble_eq_true rfl) ?_
  intro p e s m below meth c C hr hlocks
  refine V_sub (lv' := [(0, .ref (ad (0, 0, 0)))]) [0] rfl ?_
  have f7 : Cond.fieldLink RX6 7 (TX6 0).1 (TX6 0).2.1 (TX6 0).2.2.1 ∈ wsX6_checksum := List.mem_of_getElem? (i := 2) rfl
  have uX6 : ∀ w ∈ u_ws RX6 TX6 12, w ∈ wsX6_checksum := by decide +kernel
  have f26 : Cond.fieldLink RX6 26 (TX6 6).1 (TX6 6).2.1 (TX6 6).2.2.1 ∈ wsX6_checksum := List.mem_of_getElem? (i := 5) rfl
  have f29 : Cond.fieldLink RX6 29 (TX6 7).1 (TX6 7).2.1 (TX6 7).2.2.1 ∈ wsX6_checksum := List.mem_of_getElem? (i := 6) rfl
  have f32 : Cond.fieldLink RX6 32 (TX6 8).1 (TX6 8).2.1 (TX6 8).2.2.1 ∈ wsX6_checksum := List.mem_of_getElem? (i := 3) rfl
  have f35 : Cond.fieldLink RX6 35 (TX6 9).1 (TX6 9).2.1 (TX6 9).2.2.1 ∈ wsX6_checksum := List.mem_of_getElem? (i := 4) rfl
  unfold J_X6_checksum at hJ
  refine V_aload_n C dX6_checksum_0 0 rfl ?_
  refine V_cVv (st := []) (ci := 6) C okM_0 (M_X6_distributes l D tc ad A  hJ) (cwV 0 C.1.2.2.2.2 gX6_checksum_X6_distributes rfl rfl rfl (by decide +kernel) ⟨Nat.le_of_ble_eq_true rfl, Nat.le_of_ble_eq_true rfl⟩) rfl rfl rfl rfl (Nat.le_of_ble_eq_true rfl) dX6_checksum_1 (fun τ1 hJ => ?_)
  refine V_ldc2 (v := 53) C (List.mem_of_getElem? (i := 1) rfl) dX6_checksum_4 ?_
  refine V_aload_n C dX6_checksum_7 0 rfl ?_
  refine V_get (ci := 6) C okM_0 uX6 rfl 0 (Nat.le_of_ble_eq_true rfl) rfl rfl f7 dX6_checksum_8 ?_
  refine V_iconst (v := 0) C dX6_checksum_11 ci_0 ?_
  refine V_iald C okM_1 0 rfl rfl ix_0 vpc_0_214 dX6_checksum_12 ?_
  refine V_cSl (st := []) C (M_X6_more l D tc ad A (53 : Int64) (τ1 (1, 0, 0) 0) hJ) (va_cwS 2 C.1.2.2.2.2 gX6_checksum_X6_more rfl rfl rfl (by decide +kernel) ⟨Nat.le_of_ble_eq_true rfl, Nat.le_of_ble_eq_true rfl⟩) rfl rfl (Nat.le_of_ble_eq_true rfl) dX6_checksum_13 (fun r2 τ2 hJ => ?_)
  refine V_aload_n C dX6_checksum_16 0 rfl ?_
  refine V_get (ci := 6) C okM_0 uX6 rfl 0 (Nat.le_of_ble_eq_true rfl) rfl rfl f7 dX6_checksum_17 ?_
  refine V_iconst (v := 1) C dX6_checksum_20 ci_1 ?_
  refine V_iald C okM_1 0 rfl rfl ix_1 vpc_1_214 dX6_checksum_21 ?_
  refine V_cSl (st := []) C (M_X6_more l D tc ad A r2 (τ2 (1, 0, 0) 1) hJ) (va_cwS 2 C.1.2.2.2.2 gX6_checksum_X6_more rfl rfl rfl (by decide +kernel) ⟨Nat.le_of_ble_eq_true rfl, Nat.le_of_ble_eq_true rfl⟩) rfl rfl (Nat.le_of_ble_eq_true rfl) dX6_checksum_22 (fun r3 τ3 hJ => ?_)
  refine V_aload_n C dX6_checksum_25 0 rfl ?_
  refine V_get (ci := 6) C okM_0 uX6 rfl 0 (Nat.le_of_ble_eq_true rfl) rfl rfl f7 dX6_checksum_26 ?_
  refine V_iconst (v := 2) C dX6_checksum_29 ci_2 ?_
  refine V_iald C okM_1 0 rfl rfl ix_2 vpc_2_214 dX6_checksum_30 ?_
  refine V_cSl (st := []) C (M_X6_more l D tc ad A r3 (τ3 (1, 0, 0) 2) hJ) (va_cwS 2 C.1.2.2.2.2 gX6_checksum_X6_more rfl rfl rfl (by decide +kernel) ⟨Nat.le_of_ble_eq_true rfl, Nat.le_of_ble_eq_true rfl⟩) rfl rfl (Nat.le_of_ble_eq_true rfl) dX6_checksum_31 (fun r4 τ4 hJ => ?_)
  refine V_lstore_n (lv' := [(1, .long r4), (0, .ref (ad (0, 0, 0)))]) C dX6_checksum_34 (by decide) rfl ?_
  refine V_iconst (v := 0) C dX6_checksum_35 ci_0 ?_
  refine V_istore_n (lv' := [(3, .int 0), (1, .long r4), (0, .ref (ad (0, 0, 0)))]) C dX6_checksum_36 (by decide) rfl ?_
  refine V_sub (lv' := [(0, .ref (ad (0, 0, 0))), (1, .long r4), (3, .int 0)]) [2, 1, 0] rfl ?_
  obtain ⟨I37, μ37, hI37, hst37⟩ := hJ
  have L37 : ∀ (n : Nat) (y1_5 : Int64) (x3_5 : Int32) (τ5 : Mem), μ37 y1_5 x3_5 τ5 < n → I37 y1_5 x3_5 τ5 → VV p l e (headSpec wsX6_checksum ({ frames := 4, cells := 0, slots := 0, locals := 89 })).room s m ([.ref (ad (0, 0, 0))] : List Value).toArray below meth c D vwCl idsM ad (ceM tc ad) A (MQ below (va_Ql (fun (r : Int64) (u : Mem) => Qr r u) (WdO D vwCl idsM ad (ceM tc ad) A) A) ([.ref (ad (0, 0, 0))] : List Value).toArray s 0 0 A) 4 37 [(0, .ref (ad (0, 0, 0))), (1, .long y1_5), (3, .int x3_5)] [] τ5 := by
    intro n
    induction n with
    | zero => intro y1_5 x3_5 τ5 hμ _; exact absurd hμ (Nat.not_lt_zero _)
    | succ n ihn =>
      intro y1_5 x3_5 τ5 hμ37 hJ
      have ih37 := ihn
      replace hJ := hst37 y1_5 x3_5 τ5 hJ
      refine V_iload_n C dX6_checksum_37 2 rfl ?_
      refine V_aload_n C dX6_checksum_38 0 rfl ?_
      refine V_get (ci := 6) C okM_0 uX6 rfl 0 (Nat.le_of_ble_eq_true rfl) rfl rfl f7 dX6_checksum_39 ?_
      refine V_iconst (v := 1) C dX6_checksum_42 ci_1 ?_
      refine V_iald C okM_1 0 rfl rfl ix_1 vpc_1_214 dX6_checksum_43 ?_
      obtain ⟨hJt, hJf⟩ := hJ
      refine V_icmp_ge C (tgt := 80) dX6_checksum_44 rfl (fun hc6 => ?_) (fun hc6 => ?_)
      · have hJ := hJt hc6; clear hJt hJf
        refine V_iconst (v := 0) C dX6_checksum_80 ci_0 ?_
        refine V_istore_n (lv' := [(3, .int 0), (0, .ref (ad (0, 0, 0))), (1, .long y1_5)]) C dX6_checksum_81 (by decide) rfl ?_
        refine V_sub (lv' := [(0, .ref (ad (0, 0, 0))), (1, .long y1_5), (3, .int 0)]) [1, 2, 0] rfl ?_
        obtain ⟨I82, μ82, hI82, hst82⟩ := hJ
        have L82 : ∀ (n : Nat) (y1_7 : Int64) (x3_7 : Int32) (τ7 : Mem), μ82 y1_7 x3_7 τ7 < n → I82 y1_7 x3_7 τ7 → VV p l e (headSpec wsX6_checksum ({ frames := 4, cells := 0, slots := 0, locals := 89 })).room s m ([.ref (ad (0, 0, 0))] : List Value).toArray below meth c D vwCl idsM ad (ceM tc ad) A (MQ below (va_Ql (fun (r : Int64) (u : Mem) => Qr r u) (WdO D vwCl idsM ad (ceM tc ad) A) A) ([.ref (ad (0, 0, 0))] : List Value).toArray s 0 0 A) 4 82 [(0, .ref (ad (0, 0, 0))), (1, .long y1_7), (3, .int x3_7)] [] τ7 := by
          intro n
          induction n with
          | zero => intro y1_7 x3_7 τ7 hμ _; exact absurd hμ (Nat.not_lt_zero _)
          | succ n ihn =>
            intro y1_7 x3_7 τ7 hμ82 hJ
            have ih82 := ihn
            replace hJ := hst82 y1_7 x3_7 τ7 hJ
            refine V_iload_n C dX6_checksum_82 2 rfl ?_
            refine V_aload_n C dX6_checksum_83 0 rfl ?_
            refine V_get (ci := 6) C okM_0 uX6 rfl 0 (Nat.le_of_ble_eq_true rfl) rfl rfl f7 dX6_checksum_84 ?_
            refine V_iconst (v := 2) C dX6_checksum_87 ci_2 ?_
            refine V_iald C okM_1 0 rfl rfl ix_2 vpc_2_214 dX6_checksum_88 ?_
            obtain ⟨hJt, hJf⟩ := hJ
            refine V_icmp_ge C (tgt := 159) dX6_checksum_89 rfl (fun hc8 => ?_) (fun hc8 => ?_)
            · have hJ := hJt hc8; clear hJt hJf
              refine V_iconst (v := 0) C dX6_checksum_159 ci_0 ?_
              refine V_istore_n (lv' := [(3, .int 0), (0, .ref (ad (0, 0, 0))), (1, .long y1_7)]) C dX6_checksum_160 (by decide) rfl ?_
              refine V_sub (lv' := [(0, .ref (ad (0, 0, 0))), (1, .long y1_7), (3, .int 0)]) [1, 2, 0] rfl ?_
              obtain ⟨I161, μ161, hI161, hst161⟩ := hJ
              have L161 : ∀ (n : Nat) (y1_9 : Int64) (x3_9 : Int32) (τ9 : Mem), μ161 y1_9 x3_9 τ9 < n → I161 y1_9 x3_9 τ9 → VV p l e (headSpec wsX6_checksum ({ frames := 4, cells := 0, slots := 0, locals := 89 })).room s m ([.ref (ad (0, 0, 0))] : List Value).toArray below meth c D vwCl idsM ad (ceM tc ad) A (MQ below (va_Ql (fun (r : Int64) (u : Mem) => Qr r u) (WdO D vwCl idsM ad (ceM tc ad) A) A) ([.ref (ad (0, 0, 0))] : List Value).toArray s 0 0 A) 4 161 [(0, .ref (ad (0, 0, 0))), (1, .long y1_9), (3, .int x3_9)] [] τ9 := by
                intro n
                induction n with
                | zero => intro y1_9 x3_9 τ9 hμ _; exact absurd hμ (Nat.not_lt_zero _)
                | succ n ihn =>
                  intro y1_9 x3_9 τ9 hμ161 hJ
                  have ih161 := ihn
                  replace hJ := hst161 y1_9 x3_9 τ9 hJ
                  refine V_iload_n C dX6_checksum_161 2 rfl ?_
                  refine V_bipush (v := 7) C dX6_checksum_162 cb_7 ?_
                  obtain ⟨hJt, hJf⟩ := hJ
                  refine V_icmp_ge C (tgt := 186) dX6_checksum_164 rfl (fun hc10 => ?_) (fun hc10 => ?_)
                  · have hJ := hJt hc10; clear hJt hJf
                    refine V_lload_n C dX6_checksum_186 1 rfl ?_
                    refine V_aload_n C dX6_checksum_187 0 rfl ?_
                    refine V_cVi (st := [.long y1_9]) (ci := 6) C okM_0 (M_X6_turn l D tc ad A  hJ) (cwV 0 C.1.2.2.2.2 gX6_checksum_X6_turn rfl rfl rfl (by decide +kernel) ⟨Nat.le_of_ble_eq_true rfl, Nat.le_of_ble_eq_true rfl⟩) rfl rfl rfl rfl (Nat.le_of_ble_eq_true rfl) dX6_checksum_188 (fun r11 τ11 hJ => ?_)
                    refine V_cSl (st := []) C (M_X6_more l D tc ad A y1_9 r11 hJ) (va_cwS 2 C.1.2.2.2.2 gX6_checksum_X6_more rfl rfl rfl (by decide +kernel) ⟨Nat.le_of_ble_eq_true rfl, Nat.le_of_ble_eq_true rfl⟩) rfl rfl (Nat.le_of_ble_eq_true rfl) dX6_checksum_191 (fun r12 τ12 hJ => ?_)
                    exact V_lret C hr hlocks dX6_checksum_194 hJ
                  · have hJ := hJf hc10; clear hJt hJf
                    refine V_lload_n C dX6_checksum_167 1 rfl ?_
                    refine V_aload_n C dX6_checksum_168 0 rfl ?_
                    refine V_get (ci := 6) C okM_0 uX6 rfl 0 (Nat.le_of_ble_eq_true rfl) rfl rfl f7 dX6_checksum_169 ?_
                    refine V_iconst (v := 5) C dX6_checksum_172 ci_5 ?_
                    refine V_iload_n C dX6_checksum_173 2 rfl ?_
                    refine V_iadd C dX6_checksum_174 ?_
                    obtain ⟨hv13, hJ⟩ := hJ
                    refine V_iald C okM_1 0 rfl rfl rfl hv13 dX6_checksum_175 ?_
                    refine V_cSl (st := []) C (M_X6_more l D tc ad A y1_9 (τ9 (1, 0, 0) ((5 + x3_9).toNatClampNeg)) hJ) (va_cwS 2 C.1.2.2.2.2 gX6_checksum_X6_more rfl rfl rfl (by decide +kernel) ⟨Nat.le_of_ble_eq_true rfl, Nat.le_of_ble_eq_true rfl⟩) rfl rfl (Nat.le_of_ble_eq_true rfl) dX6_checksum_176 (fun r14 τ14 hJ => ?_)
                    refine V_lstore_n (lv' := [(1, .long r14), (0, .ref (ad (0, 0, 0))), (3, .int x3_9)]) C dX6_checksum_179 (by decide) rfl ?_
                    obtain ⟨x3_15, hx3_15⟩ : ∃ y : Int32, y = x3_9 + 1 := ⟨_, rfl⟩
                    replace hJ := hJ x3_15 hx3_15
                    refine V_iinc (v := x3_15) (lv' := [(3, .int x3_15), (1, .long r14), (0, .ref (ad (0, 0, 0)))]) C dX6_checksum_180 2 rfl (by rw [hx3_15]; exact congrArg _ ci_1) (by decide) rfl ?_
                    refine V_goto C (tgt := 161) dX6_checksum_183 rfl ?_
                    refine V_sub (lv' := [(0, .ref (ad (0, 0, 0))), (1, .long r14), (3, .int x3_15)]) [2, 1, 0] rfl ?_
                    exact ih161 r14 x3_15 τ14 (Nat.lt_of_lt_of_le hJ.2 (Nat.le_of_lt_succ hμ161)) hJ.1
              exact L161 _ y1_7 0 τ7 (Nat.lt_succ_self _) hI161
            · have hJ := hJf hc8; clear hJt hJf
              refine V_lload_n C dX6_checksum_92 1 rfl ?_
              refine V_aload_n C dX6_checksum_93 0 rfl ?_
              refine V_get (ci := 6) C okM_0 uX6 rfl 6 (Nat.le_of_ble_eq_true rfl) rfl rfl f26 dX6_checksum_94 ?_
              refine V_iload_n C dX6_checksum_97 2 rfl ?_
              obtain ⟨hv16, hJ⟩ := hJ
              refine V_iald C okM_6 0 rfl rfl rfl hv16 dX6_checksum_98 ?_
              refine V_cSl (st := []) C (M_X6_more l D tc ad A y1_7 (τ7 (6, 0, 0) x3_7.toNatClampNeg) hJ) (va_cwS 2 C.1.2.2.2.2 gX6_checksum_X6_more rfl rfl rfl (by decide +kernel) ⟨Nat.le_of_ble_eq_true rfl, Nat.le_of_ble_eq_true rfl⟩) rfl rfl (Nat.le_of_ble_eq_true rfl) dX6_checksum_99 (fun r17 τ17 hJ => ?_)
              refine V_aload_n C dX6_checksum_102 0 rfl ?_
              refine V_get (ci := 6) C okM_0 uX6 rfl 7 (Nat.le_of_ble_eq_true rfl) rfl rfl f29 dX6_checksum_103 ?_
              refine V_iload_n C dX6_checksum_106 2 rfl ?_
              obtain ⟨hv18, hJ⟩ := hJ
              refine V_iald C okM_7 0 rfl rfl rfl hv18 dX6_checksum_107 ?_
              refine V_cSl (st := []) C (M_X6_more l D tc ad A r17 (τ17 (7, 0, 0) x3_7.toNatClampNeg) hJ) (va_cwS 2 C.1.2.2.2.2 gX6_checksum_X6_more rfl rfl rfl (by decide +kernel) ⟨Nat.le_of_ble_eq_true rfl, Nat.le_of_ble_eq_true rfl⟩) rfl rfl (Nat.le_of_ble_eq_true rfl) dX6_checksum_108 (fun r19 τ19 hJ => ?_)
              refine V_aload_n C dX6_checksum_111 0 rfl ?_
              refine V_get (ci := 6) C okM_0 uX6 rfl 0 (Nat.le_of_ble_eq_true rfl) rfl rfl f7 dX6_checksum_112 ?_
              refine V_sipush (v := 154) C dX6_checksum_115 cs_154 ?_
              refine V_iload_n C dX6_checksum_118 2 rfl ?_
              refine V_iadd C dX6_checksum_119 ?_
              obtain ⟨hv20, hJ⟩ := hJ
              refine V_iald C okM_1 0 rfl rfl rfl hv20 dX6_checksum_120 ?_
              refine V_cSl (st := []) C (M_X6_more l D tc ad A r19 (τ19 (1, 0, 0) ((154 + x3_7).toNatClampNeg)) hJ) (va_cwS 2 C.1.2.2.2.2 gX6_checksum_X6_more rfl rfl rfl (by decide +kernel) ⟨Nat.le_of_ble_eq_true rfl, Nat.le_of_ble_eq_true rfl⟩) rfl rfl (Nat.le_of_ble_eq_true rfl) dX6_checksum_121 (fun r21 τ21 hJ => ?_)
              refine V_lstore_n (lv' := [(1, .long r21), (0, .ref (ad (0, 0, 0))), (3, .int x3_7)]) C dX6_checksum_124 (by decide) rfl ?_
              refine V_lload_n C dX6_checksum_125 0 rfl ?_
              refine V_aload_n C dX6_checksum_126 1 rfl ?_
              refine V_get (ci := 6) C okM_0 uX6 rfl 0 (Nat.le_of_ble_eq_true rfl) rfl rfl f7 dX6_checksum_127 ?_
              refine V_sipush (v := 190) C dX6_checksum_130 cs_190 ?_
              refine V_iload_n C dX6_checksum_133 2 rfl ?_
              refine V_iadd C dX6_checksum_134 ?_
              obtain ⟨hv22, hJ⟩ := hJ
              refine V_iald C okM_1 0 rfl rfl rfl hv22 dX6_checksum_135 ?_
              refine V_cSl (st := []) C (M_X6_more l D tc ad A r21 (τ21 (1, 0, 0) ((190 + x3_7).toNatClampNeg)) hJ) (va_cwS 2 C.1.2.2.2.2 gX6_checksum_X6_more rfl rfl rfl (by decide +kernel) ⟨Nat.le_of_ble_eq_true rfl, Nat.le_of_ble_eq_true rfl⟩) rfl rfl (Nat.le_of_ble_eq_true rfl) dX6_checksum_136 (fun r23 τ23 hJ => ?_)
              refine V_aload_n C dX6_checksum_139 1 rfl ?_
              refine V_get (ci := 6) C okM_0 uX6 rfl 0 (Nat.le_of_ble_eq_true rfl) rfl rfl f7 dX6_checksum_140 ?_
              refine V_sipush (v := 202) C dX6_checksum_143 cs_202 ?_
              refine V_iload_n C dX6_checksum_146 2 rfl ?_
              refine V_iadd C dX6_checksum_147 ?_
              obtain ⟨hv24, hJ⟩ := hJ
              refine V_iald C okM_1 0 rfl rfl rfl hv24 dX6_checksum_148 ?_
              refine V_cSl (st := []) C (M_X6_more l D tc ad A r23 (τ23 (1, 0, 0) ((202 + x3_7).toNatClampNeg)) hJ) (va_cwS 2 C.1.2.2.2.2 gX6_checksum_X6_more rfl rfl rfl (by decide +kernel) ⟨Nat.le_of_ble_eq_true rfl, Nat.le_of_ble_eq_true rfl⟩) rfl rfl (Nat.le_of_ble_eq_true rfl) dX6_checksum_149 (fun r25 τ25 hJ => ?_)
              refine V_lstore_n (lv' := [(1, .long r25), (0, .ref (ad (0, 0, 0))), (3, .int x3_7)]) C dX6_checksum_152 (by decide) rfl ?_
              obtain ⟨x3_26, hx3_26⟩ : ∃ y : Int32, y = x3_7 + 1 := ⟨_, rfl⟩
              replace hJ := hJ x3_26 hx3_26
              refine V_iinc (v := x3_26) (lv' := [(3, .int x3_26), (1, .long r25), (0, .ref (ad (0, 0, 0)))]) C dX6_checksum_153 2 rfl (by rw [hx3_26]; exact congrArg _ ci_1) (by decide) rfl ?_
              refine V_goto C (tgt := 82) dX6_checksum_156 rfl ?_
              refine V_sub (lv' := [(0, .ref (ad (0, 0, 0))), (1, .long r25), (3, .int x3_26)]) [2, 1, 0] rfl ?_
              exact ih82 r25 x3_26 τ25 (Nat.lt_of_lt_of_le hJ.2 (Nat.le_of_lt_succ hμ82)) hJ.1
        exact L82 _ y1_5 0 τ5 (Nat.lt_succ_self _) hI82
      · have hJ := hJf hc6; clear hJt hJf
        refine V_lload_n C dX6_checksum_47 1 rfl ?_
        refine V_aload_n C dX6_checksum_48 0 rfl ?_
        refine V_get (ci := 6) C okM_0 uX6 rfl 8 (Nat.le_of_ble_eq_true rfl) rfl rfl f32 dX6_checksum_49 ?_
        refine V_iload_n C dX6_checksum_52 2 rfl ?_
        obtain ⟨hv27, hJ⟩ := hJ
        refine V_iald C okM_8 0 rfl rfl rfl hv27 dX6_checksum_53 ?_
        refine V_cSl (st := []) C (M_X6_more l D tc ad A y1_5 (τ5 (8, 0, 0) x3_5.toNatClampNeg) hJ) (va_cwS 2 C.1.2.2.2.2 gX6_checksum_X6_more rfl rfl rfl (by decide +kernel) ⟨Nat.le_of_ble_eq_true rfl, Nat.le_of_ble_eq_true rfl⟩) rfl rfl (Nat.le_of_ble_eq_true rfl) dX6_checksum_54 (fun r28 τ28 hJ => ?_)
        refine V_aload_n C dX6_checksum_57 0 rfl ?_
        refine V_get (ci := 6) C okM_0 uX6 rfl 8 (Nat.le_of_ble_eq_true rfl) rfl rfl f32 dX6_checksum_58 ?_
        refine V_iload_n C dX6_checksum_61 2 rfl ?_
        obtain ⟨hv29, hJ⟩ := hJ
        refine V_iald C okM_8 0 rfl rfl rfl hv29 dX6_checksum_62 ?_
        refine V_aload_n C dX6_checksum_63 0 rfl ?_
        refine V_get (ci := 6) C okM_0 uX6 rfl 9 (Nat.le_of_ble_eq_true rfl) rfl rfl f35 dX6_checksum_64 ?_
        refine V_iload_n C dX6_checksum_67 2 rfl ?_
        obtain ⟨hv30, hJ⟩ := hJ
        refine V_iald C okM_9 0 rfl rfl rfl hv30 dX6_checksum_68 ?_
        refine V_isub C dX6_checksum_69 ?_
        refine V_cSl (st := []) C (M_X6_more l D tc ad A r28 ((τ28 (8, 0, 0) x3_5.toNatClampNeg) - (τ28 (9, 0, 0) x3_5.toNatClampNeg)) hJ) (va_cwS 2 C.1.2.2.2.2 gX6_checksum_X6_more rfl rfl rfl (by decide +kernel) ⟨Nat.le_of_ble_eq_true rfl, Nat.le_of_ble_eq_true rfl⟩) rfl rfl (Nat.le_of_ble_eq_true rfl) dX6_checksum_70 (fun r31 τ31 hJ => ?_)
        refine V_lstore_n (lv' := [(1, .long r31), (0, .ref (ad (0, 0, 0))), (3, .int x3_5)]) C dX6_checksum_73 (by decide) rfl ?_
        obtain ⟨x3_32, hx3_32⟩ : ∃ y : Int32, y = x3_5 + 1 := ⟨_, rfl⟩
        replace hJ := hJ x3_32 hx3_32
        refine V_iinc (v := x3_32) (lv' := [(3, .int x3_32), (1, .long r31), (0, .ref (ad (0, 0, 0)))]) C dX6_checksum_74 2 rfl (by rw [hx3_32]; exact congrArg _ ci_1) (by decide) rfl ?_
        refine V_goto C (tgt := 37) dX6_checksum_77 rfl ?_
        refine V_sub (lv' := [(0, .ref (ad (0, 0, 0))), (1, .long r31), (3, .int x3_32)]) [2, 1, 0] rfl ?_
        exact ih37 r31 x3_32 τ31 (Nat.lt_of_lt_of_le hJ.2 (Nat.le_of_lt_succ hμ37)) hJ.1
  exact L37 _ r4 0 τ4 (Nat.lt_succ_self _) hI37
set_option maxHeartbeats 4000000 in
set_option maxRecDepth 100000 in
theorem M_X6_clearText (l : Launch) (D : va_G) (tc : Nat → ClassId) (ad : Oid → Nat) (A : Nat → Prop) {σ : Mem} {Qr : Int32 → Mem → Prop} (hJ : J_X6_clearText σ Qr) : Met l yX6_clearText wsX6_clearText ({ frames := 0, cells := 0, slots := 0, locals := 0 }) (va_Pc [.ref (ad (0, 0, 0))] (WdI D vwCl (tysX tc) idsM ad (ceM tc ad) A σ)) (va_Qi (fun (r : Int32) (u : Mem) => Qr r u) (WdO D vwCl idsM ad (ceM tc ad) A) A) 0 0 A := by
  refine V_meti (cc := cX6_clearText) (nL := 2) (ret := (some .int)) (own := RX6) rfl (plainFor_of_name (by decide)) rfl rfl (Nat.le_of_ble_eq_true rfl) ?_
  intro p e s m below meth c C hr hlocks
  refine V_sub (lv' := [(0, .ref (ad (0, 0, 0)))]) [0] rfl ?_
  have f128 : Cond.fieldLink RX6 128 (TX6 5).1 (TX6 5).2.1 (TX6 5).2.2.1 ∈ wsX6_clearText := List.mem_of_getElem? (i := 1) rfl
  have uX6 : ∀ w ∈ u_ws RX6 TX6 12, w ∈ wsX6_clearText := by decide +kernel
  unfold J_X6_clearText at hJ
  refine V_aload_n C dX6_clearText_0 0 rfl ?_
  refine V_get (ci := 6) C okM_0 uX6 rfl 5 (Nat.le_of_ble_eq_true rfl) rfl rfl f128 dX6_clearText_1 ?_
  refine V_topi (fun x1_1 hx1_1 => ?_)
  replace hJ := hJ x1_1 hx1_1
  refine V_istore_n (lv' := [(1, .int x1_1), (0, .ref (ad (0, 0, 0)))]) C dX6_clearText_4 (by decide) rfl ?_
  refine V_aload_n C dX6_clearText_5 1 rfl ?_
  refine V_iconst (v := 0) C dX6_clearText_6 ci_0 ?_
  refine V_put (ci := 6) C okM_0 uX6 tyX6 tyX6_ok nmX6 rfl 5 (Nat.le_of_ble_eq_true rfl) rfl rfl f128 rfl (ty := .int) (by decide +kernel) rfl rfl (Nat.le_of_ble_eq_true rfl) dX6_clearText_7 (fun τ2 hτ2 => ?_)
  replace hJ := hJ τ2 hτ2
  refine V_iload_n C dX6_clearText_10 0 rfl ?_
  exact V_iret C hr hlocks dX6_clearText_11 hJ
set_option maxHeartbeats 4000000 in
set_option maxRecDepth 100000 in
theorem M_X6_puts (l : Launch) (D : va_G) (tc : Nat → ClassId) (ad : Oid → Nat) (A : Nat → Prop) (x1 : Int32) (x2 : Int32) {σ : Mem} {Qr : Int32 → Mem → Prop} (hJ : J_X6_puts x1 x2 σ Qr) : Met l yX6_puts wsX6_puts ({ frames := 0, cells := 0, slots := 0, locals := 0 }) (va_Pc [.ref (ad (0, 0, 0)), .int x1, .int x2] (WdI D vwCl (tysX tc) idsM ad (ceM tc ad) A σ)) (va_Qi (fun (r : Int32) (u : Mem) => Qr r u) (WdO D vwCl idsM ad (ceM tc ad) A) A) 0 0 A := by
  refine V_meti (cc := cX6_puts) (nL := 4) (ret := (some .int)) (own := RX6) rfl (plainFor_of_name (by decide)) rfl rfl (Nat.le_of_ble_eq_true rfl) ?_
  intro p e s m below meth c C hr hlocks
  refine V_sub (lv' := [(0, .ref (ad (0, 0, 0))), (1, .int x1), (2, .int x2)]) [0, 1, 2] rfl ?_
  have f7 : Cond.fieldLink RX6 7 (TX6 0).1 (TX6 0).2.1 (TX6 0).2.2.1 ∈ wsX6_puts := List.mem_of_getElem? (i := 1) rfl
  have uX6 : ∀ w ∈ u_ws RX6 TX6 12, w ∈ wsX6_puts := by decide +kernel
  unfold J_X6_puts at hJ
  refine V_aload_n C dX6_puts_0 0 rfl ?_
  refine V_get (ci := 6) C okM_0 uX6 rfl 0 (Nat.le_of_ble_eq_true rfl) rfl rfl f7 dX6_puts_1 ?_
  refine V_iload_n C dX6_puts_4 1 rfl ?_
  obtain ⟨hv1, hJ⟩ := hJ
  refine V_iald C okM_1 0 rfl rfl rfl hv1 dX6_puts_5 ?_
  refine V_topi (fun x3_2 hx3_2 => ?_)
  replace hJ := hJ x3_2 hx3_2
  refine V_istore_n (lv' := [(3, .int x3_2), (0, .ref (ad (0, 0, 0))), (1, .int x1), (2, .int x2)]) C dX6_puts_6 (by decide) rfl ?_
  refine V_aload_n C dX6_puts_7 1 rfl ?_
  refine V_get (ci := 6) C okM_0 uX6 rfl 0 (Nat.le_of_ble_eq_true rfl) rfl rfl f7 dX6_puts_8 ?_
  refine V_iload_n C dX6_puts_11 2 rfl ?_
  refine V_iload_n C dX6_puts_12 3 rfl ?_
  obtain ⟨hv3, hJ⟩ := hJ
  refine V_iast C okM_1 0 rfl (fun _ => rfl) rfl hv3 dX6_puts_13 (fun τ4 hτ4 => ?_)
  replace hJ := hJ τ4 hτ4
  refine V_iload_n C dX6_puts_14 0 rfl ?_
  exact V_iret C hr hlocks dX6_puts_15 hJ
set_option maxHeartbeats 4000000 in
set_option maxRecDepth 100000 in
theorem M_X6_gainOf (l : Launch) (D : va_G) (tc : Nat → ClassId) (ad : Oid → Nat) (A : Nat → Prop) (x1 : Int32) (x2 : Int32) {σ : Mem} {Qr : Int32 → Mem → Prop} (hJ : J_X6_gainOf x1 x2 σ Qr) : Met l yX6_gainOf wsX6_gainOf ({ frames := 4, cells := 0, slots := 0, locals := 89 }) (va_Pc [.ref (ad (0, 0, 0)), .int x1, .int x2] (WdI D vwCl (tysX tc) idsM ad (ceM tc ad) A σ)) (va_Qi (fun (r : Int32) (u : Mem) => Qr r u) (WdO D vwCl idsM ad (ceM tc ad) A) A) 0 0 A := by
  refine V_meti (cc := cX6_gainOf) (nL := 5) (ret := (some .int)) (own := RX6) rfl (plainFor_of_name (by decide)) rfl rfl (Nat.le_of_ble_eq_true rfl) ?_
  intro p e s m below meth c C hr hlocks
  refine V_sub (lv' := [(0, .ref (ad (0, 0, 0))), (1, .int x1), (2, .int x2)]) [0, 1, 2] rfl ?_
  have f29 : Cond.fieldLink RX6 29 (TX6 7).1 (TX6 7).2.1 (TX6 7).2.2.1 ∈ wsX6_gainOf := List.mem_of_getElem? (i := 1) rfl
  have uX6 : ∀ w ∈ u_ws RX6 TX6 12, w ∈ wsX6_gainOf := by decide +kernel
  have f7 : Cond.fieldLink RX6 7 (TX6 0).1 (TX6 0).2.1 (TX6 0).2.2.1 ∈ wsX6_gainOf := List.mem_of_getElem? (i := 2) rfl
  unfold J_X6_gainOf at hJ
  refine V_aload_n C dX6_gainOf_0 0 rfl ?_
  refine V_cVv (st := []) (ci := 6) C okM_0 (M_X6_distributes l D tc ad A  hJ) (cwV 0 C.1.2.2.2.2 gX6_gainOf_X6_distributes rfl rfl rfl (by decide +kernel) ⟨Nat.le_of_ble_eq_true rfl, Nat.le_of_ble_eq_true rfl⟩) rfl rfl rfl rfl (Nat.le_of_ble_eq_true rfl) dX6_gainOf_1 (fun τ1 hJ => ?_)
  refine V_aload_n C dX6_gainOf_4 0 rfl ?_
  refine V_get (ci := 6) C okM_0 uX6 rfl 7 (Nat.le_of_ble_eq_true rfl) rfl rfl f29 dX6_gainOf_5 ?_
  refine V_iload_n C dX6_gainOf_8 1 rfl ?_
  obtain ⟨hv2, hJ⟩ := hJ
  refine V_iald C okM_7 0 rfl rfl rfl hv2 dX6_gainOf_9 ?_
  refine V_topi (fun x3_3 hx3_3 => ?_)
  replace hJ := hJ x3_3 hx3_3
  refine V_istore_n (lv' := [(3, .int x3_3), (0, .ref (ad (0, 0, 0))), (1, .int x1), (2, .int x2)]) C dX6_gainOf_10 (by decide) rfl ?_
  refine V_aload_n C dX6_gainOf_11 1 rfl ?_
  refine V_sipush (v := 202) C dX6_gainOf_12 cs_202 ?_
  refine V_iload_n C dX6_gainOf_15 3 rfl ?_
  refine V_iadd C dX6_gainOf_16 ?_
  refine V_iconst (v := 1) C dX6_gainOf_17 ci_1 ?_
  refine V_cVi (st := []) (ci := 6) C okM_0 (M_X6_puts l D tc ad A (202 + x2) 1 hJ) (cwV 2 C.1.2.2.2.2 gX6_gainOf_X6_puts rfl rfl rfl (by decide +kernel) ⟨Nat.le_of_ble_eq_true rfl, Nat.le_of_ble_eq_true rfl⟩) rfl rfl rfl rfl (Nat.le_of_ble_eq_true rfl) dX6_gainOf_18 (fun r4 τ4 hJ => ?_)
  refine V_istore (lv' := [(4, .int r4), (3, .int x3_3), (0, .ref (ad (0, 0, 0))), (1, .int x1), (2, .int x2)]) C dX6_gainOf_21 (by decide) rfl ?_
  refine V_aload_n C dX6_gainOf_23 2 rfl ?_
  refine V_cVv (st := []) (ci := 6) C okM_0 (M_X6_distributes l D tc ad A  hJ) (cwV 0 C.1.2.2.2.2 gX6_gainOf_X6_distributes rfl rfl rfl (by decide +kernel) ⟨Nat.le_of_ble_eq_true rfl, Nat.le_of_ble_eq_true rfl⟩) rfl rfl rfl rfl (Nat.le_of_ble_eq_true rfl) dX6_gainOf_24 (fun τ5 hJ => ?_)
  refine V_aload_n C dX6_gainOf_27 2 rfl ?_
  refine V_get (ci := 6) C okM_0 uX6 rfl 0 (Nat.le_of_ble_eq_true rfl) rfl rfl f7 dX6_gainOf_28 ?_
  refine V_sipush (v := 202) C dX6_gainOf_31 cs_202 ?_
  refine V_iload_n C dX6_gainOf_34 4 rfl ?_
  refine V_iadd C dX6_gainOf_35 ?_
  refine V_iload C dX6_gainOf_36 0 rfl ?_
  obtain ⟨hv6, hJ⟩ := hJ
  refine V_iast C okM_1 0 rfl (fun _ => rfl) rfl hv6 dX6_gainOf_38 (fun τ7 hτ7 => ?_)
  replace hJ := hJ τ7 hτ7
  refine V_aload_n C dX6_gainOf_39 2 rfl ?_
  refine V_get (ci := 6) C okM_0 uX6 rfl 7 (Nat.le_of_ble_eq_true rfl) rfl rfl f29 dX6_gainOf_40 ?_
  refine V_iload_n C dX6_gainOf_43 3 rfl ?_
  obtain ⟨hv8, hJ⟩ := hJ
  refine V_iald C okM_7 0 rfl rfl rfl hv8 dX6_gainOf_44 ?_
  refine V_iload_n C dX6_gainOf_45 1 rfl ?_
  refine V_isub C dX6_gainOf_46 ?_
  exact V_iret C hr hlocks dX6_gainOf_47 hJ
