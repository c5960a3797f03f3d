set_option maxHeartbeats 4000000 in
set_option maxRecDepth 100000 in
theorem M_J9_floorMod_7cf53 (l : Launch) (D : va_G) (tc : Nat → ClassId) (ad : Oid → Nat) (A : Nat → Prop) (x0 : Int32) (x1 : Int32) {σ : Mem} {Qr : Int32 → Mem → Prop} (hJ : J_J9_floorMod_7cf53 x0 x1 σ Qr) : Met l yJ9_floorMod_7cf53 wsJ9_floorMod_7cf53 ({ frames := 0, cells := 0, slots := 0, locals := 0 }) (va_Pc [.int x0, .int x1] (WdI D vwCl (tysX tc) idsX ad (ceX tc ad) A σ)) (va_Qi (fun (r : Int32) (u : Mem) => Qr r u) (WdO D vwCl idsX ad (ceX tc ad) A) A) 0 0 A := by
  refine V_meti (cc := cJ9_floorMod_7cf53) (nL := 3) (ret := (some .int)) (own := RJ9) rfl (by decide +kernel) rfl rfl (Nat.le_of_ble_eq_true rfl) ?_
  intro p e s m below meth c C hr hlocks
  refine V_sub (lv' := [(0, .int x0), (1, .int x1)]) [0, 1] rfl ?_
  unfold J_J9_floorMod_7cf53 at hJ
  refine V_iload_n C dJ9_floorMod_7cf53_0 0 rfl ?_
  refine V_iload_n C dJ9_floorMod_7cf53_1 1 rfl ?_
  obtain ⟨hz1, hJ⟩ := hJ
  refine V_irem C dJ9_floorMod_7cf53_2 hz1 ?_
  refine V_topi (fun x2_2 hx2_2 => ?_)
  replace hJ := hJ x2_2 hx2_2
  refine V_istore_n (lv' := [(2, .int x2_2), (0, .int x0), (1, .int x1)]) C dJ9_floorMod_7cf53_3 (by decide) rfl ?_
  refine V_iload_n C dJ9_floorMod_7cf53_4 1 rfl ?_
  refine V_iload_n C dJ9_floorMod_7cf53_5 2 rfl ?_
  refine V_ixor C dJ9_floorMod_7cf53_6 ?_
  obtain ⟨hJt, hJf⟩ := hJ
  refine V_if_ge C (tgt := 18) dJ9_floorMod_7cf53_7 rfl (fun hc3 => ?_) (fun hc3 => ?_)
  · have hJ := hJt hc3; clear hJt hJf
    refine V_iload_n C dJ9_floorMod_7cf53_18 0 rfl ?_
    exact V_iret C hr hlocks dJ9_floorMod_7cf53_19 hJ
  · have hJ := hJf hc3; clear hJt hJf
    refine V_iload_n C dJ9_floorMod_7cf53_10 0 rfl ?_
    obtain ⟨hJt, hJf⟩ := hJ
    refine V_if_eq C (tgt := 18) dJ9_floorMod_7cf53_11 rfl (fun hc4 => ?_) (fun hc4 => ?_)
    · have hJ := hJt hc4; clear hJt hJf
      refine V_iload_n C dJ9_floorMod_7cf53_18 0 rfl ?_
      exact V_iret C hr hlocks dJ9_floorMod_7cf53_19 hJ
    · have hJ := hJf hc4; clear hJt hJf
      refine V_iload_n C dJ9_floorMod_7cf53_14 0 rfl ?_
      refine V_iload_n C dJ9_floorMod_7cf53_15 2 rfl ?_
      refine V_iadd C dJ9_floorMod_7cf53_16 ?_
      exact V_iret C hr hlocks dJ9_floorMod_7cf53_17 hJ
set_option maxHeartbeats 4000000 in
set_option maxRecDepth 100000 in
theorem M_X2_hasDitch (l : Launch) (D : va_G) (tc : Nat → ClassId) (ad : Oid → Nat) (A : Nat → Prop) (j0 : Nat) (hj0 : j0 < 4) (x1 : Int32) {σ : Mem} {Qr : Int32 → Mem → Prop} (hJ : J_X2_hasDitch j0 x1 σ Qr) : Met l yX2_hasDitch wsX2_hasDitch ({ frames := 0, cells := 0, slots := 0, locals := 0 }) (va_Pc [.ref (ad (7, j0, 0)), .int x1] (WdI D vwCl (tysX tc) idsX ad (ceX tc ad) A σ)) (va_Qi (fun (r : Int32) (u : Mem) => Qr r u) (WdO D vwCl idsX ad (ceX tc ad) A) A) 0 0 A := by
  refine V_meti (cc := cX2_hasDitch) (nL := 2) (ret := (some .boolean)) (own := RX2) rfl (plainFor_of_name (by decide)) rfl rfl (Nat.le_of_ble_eq_true rfl) ?_
  intro p e s m below meth c C hr hlocks
  refine V_sub (lv' := [(0, .ref (ad (7, j0, 0))), (1, .int x1)]) [0, 1] rfl ?_
  have f49 : Cond.fieldLink RX2 49 (TX2 5).1 (TX2 5).2.1 (TX2 5).2.2.1 ∈ wsX2_hasDitch := List.mem_of_getElem? (i := 1) rfl
  have uX2 : ∀ w ∈ u_ws RX2 TX2 10, w ∈ wsX2_hasDitch := by decide +kernel
  unfold J_X2_hasDitch at hJ
  refine V_iload_n C dX2_hasDitch_0 1 rfl ?_
  obtain ⟨hJt, hJf⟩ := hJ
  refine V_if_lt C (tgt := 16) dX2_hasDitch_1 rfl (fun hc1 => ?_) (fun hc1 => ?_)
  · have hJ := hJt hc1; clear hJt hJf
    refine V_iconst (v := 0) C dX2_hasDitch_16 ci_0 ?_
    exact V_zret C hr hlocks (Or.inl rfl) dX2_hasDitch_17 hJ
  · have hJ := hJf hc1; clear hJt hJf
    refine V_iload_n C dX2_hasDitch_4 1 rfl ?_
    refine V_aload_n C dX2_hasDitch_5 0 rfl ?_
    refine V_get (ci := 2) C (ok7 hj0) uX2 rfl 5 (Nat.le_of_ble_eq_true rfl) rfl rfl f49 dX2_hasDitch_6 ?_
    obtain ⟨hJt, hJf⟩ := hJ
    refine V_icmp_ge C (tgt := 16) dX2_hasDitch_9 rfl (fun hc2 => ?_) (fun hc2 => ?_)
    · have hJ := hJt hc2; clear hJt hJf
      refine V_iconst (v := 0) C dX2_hasDitch_16 ci_0 ?_
      exact V_zret C hr hlocks (Or.inl rfl) dX2_hasDitch_17 hJ
    · have hJ := hJf hc2; clear hJt hJf
      refine V_iconst (v := 1) C dX2_hasDitch_12 ci_1 ?_
      refine V_goto C (tgt := 17) dX2_hasDitch_13 rfl ?_
      exact V_zret C hr hlocks (Or.inr rfl) dX2_hasDitch_17 hJ
set_option maxHeartbeats 4000000 in
set_option maxRecDepth 100000 in
theorem M_X5_isWithin (l : Launch) (D : va_G) (tc : Nat → ClassId) (ad : Oid → Nat) (A : Nat → Prop) (x0 : Int32) (x1 : Int32) (x2 : Int32) {σ : Mem} {Qr : Int32 → Mem → Prop} (hJ : J_X5_isWithin x0 x1 x2 σ Qr) : Met l yX5_isWithin wsX5_isWithin ({ frames := 0, cells := 0, slots := 0, locals := 0 }) (va_Pc [.int x0, .int x1, .int x2] (WdI D vwCl (tysX tc) idsX ad (ceX tc ad) A σ)) (va_Qi (fun (r : Int32) (u : Mem) => Qr r u) (WdO D vwCl idsX ad (ceX tc ad) A) A) 0 0 A := by
  refine V_meti (cc := cX5_isWithin) (nL := 3) (ret := (some .boolean)) (own := RX5) rfl (plainFor_of_name (by decide)) rfl rfl (Nat.le_of_ble_eq_true rfl) ?_
  intro p e s m below meth c C hr hlocks
  refine V_sub (lv' := [(0, .int x0), (1, .int x1), (2, .int x2)]) [0, 1, 2] rfl ?_
  unfold J_X5_isWithin at hJ
  refine V_iload_n C dX5_isWithin_0 0 rfl ?_
  refine V_iload_n C dX5_isWithin_1 1 rfl ?_
  obtain ⟨hJt, hJf⟩ := hJ
  refine V_icmp_lt C (tgt := 14) dX5_isWithin_2 rfl (fun hc1 => ?_) (fun hc1 => ?_)
  · have hJ := hJt hc1; clear hJt hJf
    refine V_iconst (v := 0) C dX5_isWithin_14 ci_0 ?_
    exact V_zret C hr hlocks (Or.inl rfl) dX5_isWithin_15 hJ
  · have hJ := hJf hc1; clear hJt hJf
    refine V_iload_n C dX5_isWithin_5 0 rfl ?_
    refine V_iload_n C dX5_isWithin_6 2 rfl ?_
    obtain ⟨hJt, hJf⟩ := hJ
    refine V_icmp_gt C (tgt := 14) dX5_isWithin_7 rfl (fun hc2 => ?_) (fun hc2 => ?_)
    · have hJ := hJt hc2; clear hJt hJf
      refine V_iconst (v := 0) C dX5_isWithin_14 ci_0 ?_
      exact V_zret C hr hlocks (Or.inl rfl) dX5_isWithin_15 hJ
    · have hJ := hJf hc2; clear hJt hJf
      refine V_iconst (v := 1) C dX5_isWithin_10 ci_1 ?_
      refine V_goto C (tgt := 15) dX5_isWithin_11 rfl ?_
      exact V_zret C hr hlocks (Or.inr rfl) dX5_isWithin_15 hJ
set_option maxHeartbeats 4000000 in
set_option maxRecDepth 100000 in
theorem M_X5_areGateAndLoss (l : Launch) (D : va_G) (tc : Nat → ClassId) (ad : Oid → Nat) (A : Nat → Prop) (x0 : Int32) (x1 : Int32) {σ : Mem} {Qr : Int32 → Mem → Prop} (hJ : J_X5_areGateAndLoss x0 x1 σ Qr) : Met l yX5_areGateAndLoss wsX5_areGateAndLoss ({ frames := 1, cells := 0, slots := 0, locals := 22 }) (va_Pc [.int x0, .int x1] (WdI D vwCl (tysX tc) idsX ad (ceX tc ad) A σ)) (va_Qi (fun (r : Int32) (u : Mem) => Qr r u) (WdO D vwCl idsX ad (ceX tc ad) A) A) 0 0 A := by
  refine V_meti (cc := cX5_areGateAndLoss) (nL := 2) (ret := (some .boolean)) (own := RX5) rfl (plainFor_of_name (by decide)) rfl rfl (Nat.le_of_ble_eq_true rfl) ?_
  intro p e s m below meth c C hr hlocks
  refine V_sub (lv' := [(0, .int x0), (1, .int x1)]) [0, 1] rfl ?_
  unfold J_X5_areGateAndLoss at hJ
  refine V_iload_n C dX5_areGateAndLoss_0 0 rfl ?_
  refine V_iconst (v := 1) C dX5_areGateAndLoss_1 ci_1 ?_
  refine V_sipush (v := 200) C dX5_areGateAndLoss_2 cs_200 ?_
  refine V_cSi (st := []) C ⟨Nat.zero_le _, Nat.zero_le _⟩ (M_X5_isWithin l D tc ad A x0 1 200 hJ) (va_cwS 3 C.1.2.2.2.2 gX5_areGateAndLoss_X5_isWithin rfl rfl rfl (by decide +kernel) ⟨Nat.le_of_ble_eq_true rfl, Nat.le_of_ble_eq_true rfl⟩) rfl rfl (Nat.le_of_ble_eq_true rfl) dX5_areGateAndLoss_5 (fun r1 τ1 hJ => ?_)
  obtain ⟨hJt, hJf⟩ := hJ
  refine V_if_eq C (tgt := 25) dX5_areGateAndLoss_8 rfl (fun hc2 => ?_) (fun hc2 => ?_)
  · have hJ := hJt hc2; clear hJt hJf
    refine V_iconst (v := 0) C dX5_areGateAndLoss_25 ci_0 ?_
    exact V_zret C hr hlocks (Or.inl rfl) dX5_areGateAndLoss_26 hJ
  · have hJ := hJf hc2; clear hJt hJf
    refine V_iload_n C dX5_areGateAndLoss_11 1 rfl ?_
    refine V_iconst (v := 0) C dX5_areGateAndLoss_12 ci_0 ?_
    refine V_bipush (v := 50) C dX5_areGateAndLoss_13 cb_50 ?_
    refine V_cSi (st := []) C ⟨Nat.zero_le _, Nat.zero_le _⟩ (M_X5_isWithin l D tc ad A x1 0 50 hJ) (va_cwS 3 C.1.2.2.2.2 gX5_areGateAndLoss_X5_isWithin rfl rfl rfl (by decide +kernel) ⟨Nat.le_of_ble_eq_true rfl, Nat.le_of_ble_eq_true rfl⟩) rfl rfl (Nat.le_of_ble_eq_true rfl) dX5_areGateAndLoss_15 (fun r3 τ3 hJ => ?_)
    obtain ⟨hJt, hJf⟩ := hJ
    refine V_if_eq C (tgt := 25) dX5_areGateAndLoss_18 rfl (fun hc4 => ?_) (fun hc4 => ?_)
    · have hJ := hJt hc4; clear hJt hJf
      refine V_iconst (v := 0) C dX5_areGateAndLoss_25 ci_0 ?_
      exact V_zret C hr hlocks (Or.inl rfl) dX5_areGateAndLoss_26 hJ
    · have hJ := hJf hc4; clear hJt hJf
      refine V_iconst (v := 1) C dX5_areGateAndLoss_21 ci_1 ?_
      refine V_goto C (tgt := 26) dX5_areGateAndLoss_22 rfl ?_
      exact V_zret C hr hlocks (Or.inr rfl) dX5_areGateAndLoss_26 hJ
set_option maxHeartbeats 4000000 in
set_option maxRecDepth 100000 in
theorem M_X5_setDitch (l : Launch) (D : va_G) (tc : Nat → ClassId) (ad : Oid → Nat) (A : Nat → Prop) (x1 : Int32) (x2 : Int32) (x3 : Int32) {σ : Mem} {Qr : Int32 → Mem → Prop} (hJ : J_X5_setDitch x1 x2 x3 σ Qr) : Met l yX5_setDitch wsX5_setDitch ({ frames := 2, cells := 0, slots := 0, locals := 43 }) (va_Pc [.ref (ad (0, 0, 0)), .int x1, .int x2, .int x3] (WdI D vwCl (tysX tc) idsX ad (ceX tc ad) A σ)) (va_Qi (fun (r : Int32) (u : Mem) => Qr r u) (WdO D vwCl idsX ad (ceX tc ad) A) A) 0 0 A := by
  refine V_meti (cc := cX5_setDitch) (nL := 6) (ret := (some .int)) (own := RX5) rfl (plainFor_of_name (by decide)) rfl rfl (Nat.le_of_ble_eq_true rfl) ?_
  intro p e s m below meth c C hr hlocks
  refine V_sub (lv' := [(0, .ref (ad (0, 0, 0))), (1, .int x1), (2, .int x2), (3, .int x3)]) [0, 1, 2, 3] rfl ?_
  have f10 : Cond.fieldLink RX5 10 (TX5 0).1 (TX5 0).2.1 (TX5 0).2.2.1 ∈ wsX5_setDitch := List.mem_of_getElem? (i := 1) rfl
  have uX5 : ∀ w ∈ u_ws RX5 TX5 6, w ∈ wsX5_setDitch := by decide +kernel
  have f61 : Cond.fieldLink RX5 61 (TX2 0).1 (TX2 0).2.1 (TX2 0).2.2.1 ∈ wsX5_setDitch := List.mem_of_getElem? (i := 2) rfl
  have uX2 : ∀ w ∈ u_ws RX2 TX2 10, w ∈ wsX5_setDitch := by decide +kernel
  have f65 : Cond.fieldLink RX5 65 (TX0 1).1 (TX0 1).2.1 (TX0 1).2.2.1 ∈ wsX5_setDitch := List.mem_of_getElem? (i := 3) rfl
  have uX0 : ∀ w ∈ u_ws RX0 TX0 3, w ∈ wsX5_setDitch := by decide +kernel
  have f70 : Cond.fieldLink RX5 70 (TX0 2).1 (TX0 2).2.1 (TX0 2).2.2.1 ∈ wsX5_setDitch := List.mem_of_getElem? (i := 4) rfl
  unfold J_X5_setDitch at hJ
  refine V_aload_n C dX5_setDitch_0 0 rfl ?_
  refine V_get (ci := 5) C okX_0_0 uX5 rfl 0 (Nat.le_of_ble_eq_true rfl) rfl rfl f10 dX5_setDitch_1 ?_
  refine V_iload_n C dX5_setDitch_4 1 rfl ?_
  refine V_cVi (st := []) (ci := 2) C (ok7 (by decide)) ⟨Nat.zero_le _, Nat.zero_le _⟩ (M_X2_hasDitch l D tc ad A 0 (by decide) x1 hJ) (cwV 1 C.1.2.2.2.2 gX5_setDitch_X2_hasDitch rfl rfl rfl (by decide +kernel) ⟨Nat.le_of_ble_eq_true rfl, Nat.le_of_ble_eq_true rfl⟩) rfl rfl rfl rfl (Nat.le_of_ble_eq_true rfl) dX5_setDitch_5 (fun r1 τ1 hJ => ?_)
  obtain ⟨hJt, hJf⟩ := hJ
  refine V_if_ne C (tgt := 14) dX5_setDitch_8 rfl (fun hc2 => ?_) (fun hc2 => ?_)
  · have hJ := hJt hc2; clear hJt hJf
    refine V_iload_n C dX5_setDitch_14 2 rfl ?_
    refine V_iload_n C dX5_setDitch_15 3 rfl ?_
    refine V_cSi (st := []) C ⟨Nat.zero_le _, Nat.zero_le _⟩ (M_X5_areGateAndLoss l D tc ad A x2 x3 hJ) (va_cwS 2 C.1.2.2.2.2 gX5_setDitch_X5_areGateAndLoss rfl rfl rfl (by decide +kernel) ⟨Nat.le_of_ble_eq_true rfl, Nat.le_of_ble_eq_true rfl⟩) rfl rfl (Nat.le_of_ble_eq_true rfl) dX5_setDitch_16 (fun r3 τ3 hJ => ?_)
    obtain ⟨hJt, hJf⟩ := hJ
    refine V_if_ne C (tgt := 25) dX5_setDitch_19 rfl (fun hc4 => ?_) (fun hc4 => ?_)
    · have hJ := hJt hc4; clear hJt hJf
      refine V_aload_n C dX5_setDitch_25 0 rfl ?_
      refine V_get (ci := 5) C okX_0_0 uX5 rfl 0 (Nat.le_of_ble_eq_true rfl) rfl rfl f10 dX5_setDitch_26 ?_
      refine V_get (ci := 2) C (ok7 (by decide)) uX2 rfl 0 (Nat.le_of_ble_eq_true rfl) rfl rfl f61 dX5_setDitch_29 ?_
      refine V_iload_n C dX5_setDitch_32 1 rfl ?_
      obtain ⟨hv5, hJ⟩ := hJ
      refine V_aald (o' := (13, 0, x1.toNatClampNeg)) C (ok8 (by decide)) 3 rfl rfl hv5 rfl dX5_setDitch_33 ?_
      refine V_astore (lv' := [(4, .ref (ad (13, 0, x1.toNatClampNeg))), (0, .ref (ad (0, 0, 0))), (1, .int x1), (2, .int x2), (3, .int x3)]) C dX5_setDitch_34 (by decide) rfl ?_
      refine V_aload C dX5_setDitch_36 0 rfl ?_
      refine V_get (ci := 0) C (ok13 (by decide) (vp_lt hv5)) uX0 rfl 1 (Nat.le_of_ble_eq_true rfl) rfl rfl f65 dX5_setDitch_38 ?_
      refine V_topi (fun x5_6 hx5_6 => ?_)
      replace hJ := hJ x5_6 hx5_6
      refine V_istore (lv' := [(5, .int x5_6), (4, .ref (ad (13, 0, x1.toNatClampNeg))), (0, .ref (ad (0, 0, 0))), (1, .int x1), (2, .int x2), (3, .int x3)]) C dX5_setDitch_41 (by decide) rfl ?_
      refine V_aload C dX5_setDitch_43 1 rfl ?_
      refine V_iload_n C dX5_setDitch_45 4 rfl ?_
      refine V_put (ci := 0) C (ok13 (by decide) (vp_lt hv5)) uX0 tyX0 tyX0_ok nmX0 rfl 1 (Nat.le_of_ble_eq_true rfl) rfl rfl f65 rfl (ty := .int) (by decide +kernel) rfl rfl (Nat.le_of_ble_eq_true rfl) dX5_setDitch_46 (fun τ7 hτ7 => ?_)
      replace hJ := hJ τ7 hτ7
      refine V_aload C dX5_setDitch_49 1 rfl ?_
      refine V_iload_n C dX5_setDitch_51 5 rfl ?_
      refine V_put (ci := 0) C (ok13 (by decide) (vp_lt hv5)) uX0 tyX0 tyX0_ok nmX0 rfl 2 (Nat.le_of_ble_eq_true rfl) rfl rfl f70 rfl (ty := .int) (by decide +kernel) rfl rfl (Nat.le_of_ble_eq_true rfl) dX5_setDitch_52 (fun τ8 hτ8 => ?_)
      replace hJ := hJ τ8 hτ8
      refine V_iload C dX5_setDitch_55 0 rfl ?_
      exact V_iret C hr hlocks dX5_setDitch_57 hJ
    · have hJ := hJf hc4; clear hJt hJf
      refine V_bipush (v := (-102)) C dX5_setDitch_22 cb_m102 ?_
      exact V_iret C hr hlocks dX5_setDitch_24 hJ
  · have hJ := hJf hc2; clear hJt hJf
    refine V_bipush (v := (-101)) C dX5_setDitch_11 cb_m101 ?_
    exact V_iret C hr hlocks dX5_setDitch_13 hJ
set_option maxHeartbeats 4000000 in
set_option maxRecDepth 100000 in
theorem M_X5_areHours (l : Launch) (D : va_G) (tc : Nat → ClassId) (ad : Oid → Nat) (A : Nat → Prop) (x0 : Int32) (x1 : Int32) {σ : Mem} {Qr : Int32 → Mem → Prop} (hJ : J_X5_areHours x0 x1 σ Qr) : Met l yX5_areHours wsX5_areHours ({ frames := 1, cells := 0, slots := 0, locals := 22 }) (va_Pc [.int x0, .int x1] (WdI D vwCl (tysX tc) idsX ad (ceX tc ad) A σ)) (va_Qi (fun (r : Int32) (u : Mem) => Qr r u) (WdO D vwCl idsX ad (ceX tc ad) A) A) 0 0 A := by
  refine V_meti (cc := cX5_areHours) (nL := 2) (ret := (some .boolean)) (own := RX5) rfl (plainFor_of_name (by decide)) rfl rfl (Nat.le_of_ble_eq_true rfl) ?_
  intro p e s m below meth c C hr hlocks
  refine V_sub (lv' := [(0, .int x0), (1, .int x1)]) [0, 1] rfl ?_
  unfold J_X5_areHours at hJ
  refine V_iload_n C dX5_areHours_0 0 rfl ?_
  refine V_iconst (v := 0) C dX5_areHours_1 ci_0 ?_
  refine V_bipush (v := 23) C dX5_areHours_2 cb_23 ?_
  refine V_cSi (st := []) C ⟨Nat.zero_le _, Nat.zero_le _⟩ (M_X5_isWithin l D tc ad A x0 0 23 hJ) (va_cwS 3 C.1.2.2.2.2 gX5_areHours_X5_isWithin rfl rfl rfl (by decide +kernel) ⟨Nat.le_of_ble_eq_true rfl, Nat.le_of_ble_eq_true rfl⟩) rfl rfl (Nat.le_of_ble_eq_true rfl) dX5_areHours_4 (fun r1 τ1 hJ => ?_)
  obtain ⟨hJt, hJf⟩ := hJ
  refine V_if_eq C (tgt := 25) dX5_areHours_7 rfl (fun hc2 => ?_) (fun hc2 => ?_)
  · have hJ := hJt hc2; clear hJt hJf
    refine V_iconst (v := 0) C dX5_areHours_25 ci_0 ?_
    exact V_zret C hr hlocks (Or.inl rfl) dX5_areHours_26 hJ
  · have hJ := hJf hc2; clear hJt hJf
    refine V_iload_n C dX5_areHours_10 1 rfl ?_
    refine V_iload_n C dX5_areHours_11 0 rfl ?_
    obtain ⟨hJt, hJf⟩ := hJ
    refine V_icmp_le C (tgt := 25) dX5_areHours_12 rfl (fun hc3 => ?_) (fun hc3 => ?_)
    · have hJ := hJt hc3; clear hJt hJf
      refine V_iconst (v := 0) C dX5_areHours_25 ci_0 ?_
      exact V_zret C hr hlocks (Or.inl rfl) dX5_areHours_26 hJ
    · have hJ := hJf hc3; clear hJt hJf
      refine V_iload_n C dX5_areHours_15 1 rfl ?_
      refine V_bipush (v := 24) C dX5_areHours_16 cb_24 ?_
      obtain ⟨hJt, hJf⟩ := hJ
      refine V_icmp_gt C (tgt := 25) dX5_areHours_18 rfl (fun hc4 => ?_) (fun hc4 => ?_)
      · have hJ := hJt hc4; clear hJt hJf
        refine V_iconst (v := 0) C dX5_areHours_25 ci_0 ?_
        exact V_zret C hr hlocks (Or.inl rfl) dX5_areHours_26 hJ
      · have hJ := hJf hc4; clear hJt hJf
        refine V_iconst (v := 1) C dX5_areHours_21 ci_1 ?_
        refine V_goto C (tgt := 26) dX5_areHours_22 rfl ?_
        exact V_zret C hr hlocks (Or.inr rfl) dX5_areHours_26 hJ
set_option maxHeartbeats 4000000 in
set_option maxRecDepth 100000 in
theorem M_X2_putSupply (l : Launch) (D : va_G) (tc : Nat → ClassId) (ad : Oid → Nat) (A : Nat → Prop) (j0 : Nat) (hj0 : j0 < 4) (x1 : Int32) (x2 : Int32) (x3 : Int32) {σ : Mem} {Qr : Mem → Prop} (hJ : J_X2_putSupply j0 x1 x2 x3 σ Qr) : Met l yX2_putSupply wsX2_putSupply ({ frames := 1, cells := 0, slots := 0, locals := 13 }) (va_Pc [.ref (ad (7, j0, 0)), .int x1, .int x2, .int x3] (WdI D vwCl (tysX tc) idsX ad (ceX tc ad) A σ)) (va_Qv (fun (u : Mem) => Qr u) (WdO D vwCl idsX ad (ceX tc ad) A) A) 0 0 A := by
  refine V_metv (cc := cX2_putSupply) (nL := 5) (ret := none) (own := RX2) rfl (plainFor_of_name (by decide)) rfl rfl (Nat.le_of_ble_eq_true rfl) ?_
  intro p e s m below meth c C hr hlocks
  refine V_sub (lv' := [(0, .ref (ad (7, j0, 0))), (1, .int x1), (2, .int x2), (3, .int x3)]) [0, 1, 2, 3] rfl ?_
  have f27 : Cond.fieldLink RX2 27 (TX2 3).1 (TX2 3).2.1 (TX2 3).2.2.1 ∈ wsX2_putSupply := List.mem_of_getElem? (i := 5) rfl
  have uX2 : ∀ w ∈ u_ws RX2 TX2 10, w ∈ wsX2_putSupply := by decide +kernel
  unfold J_X2_putSupply at hJ
  refine V_iload_n C dX2_putSupply_0 1 rfl ?_
  refine V_iconst (v := 0) C dX2_putSupply_1 ci_0 ?_
  refine V_mmax C ⟨Nat.zero_le _, Nat.zero_le _⟩ (List.mem_of_getElem? (i := 1) rfl) (List.mem_of_getElem? (i := 2) rfl) (List.mem_of_getElem? (i := 3) rfl) (List.mem_of_getElem? (i := 4) rfl) (Nat.le_of_ble_eq_true rfl) (Nat.le_of_ble_eq_true rfl) dX2_putSupply_2 ?_
  refine V_topi (fun x4_1 hx4_1 => ?_)
  replace hJ := hJ x4_1 hx4_1
  refine V_istore (lv' := [(4, .int x4_1), (0, .ref (ad (7, j0, 0))), (1, .int x1), (2, .int x2), (3, .int x3)]) C dX2_putSupply_5 (by decide) rfl ?_
  refine V_sub (lv' := [(0, .ref (ad (7, j0, 0))), (2, .int x2), (3, .int x3), (4, .int x4_1)]) [1, 3, 4, 0] rfl ?_
  obtain ⟨I7, μ7, hI7, hst7⟩ := hJ
  have L7 : ∀ (n : Nat) (x4_2 : Int32) (τ2 : Mem), μ7 x4_2 τ2 < n → I7 x4_2 τ2 → VV p l e (headSpec wsX2_putSupply ({ frames := 1, cells := 0, slots := 0, locals := 13 })).room s m ([.ref (ad (7, j0, 0)), .int x1, .int x2, .int x3] : List Value).toArray below meth c D vwCl idsX ad (ceX tc ad) A (MQ below (va_Qv (fun (u : Mem) => Qr u) (WdO D vwCl idsX ad (ceX tc ad) A) A) ([.ref (ad (7, j0, 0)), .int x1, .int x2, .int x3] : List Value).toArray s 0 0 A) 5 (0, 0) 7 [(0, .ref (ad (7, j0, 0))), (2, .int x2), (3, .int x3), (4, .int x4_2)] [] τ2 := by
    intro n
    induction n with
    | zero => intro x4_2 τ2 hμ _; exact absurd hμ (Nat.not_lt_zero _)
    | succ n ihn =>
      intro x4_2 τ2 hμ7 hJ
      have ih7 := ihn
      replace hJ := hst7 x4_2 τ2 hJ
      refine V_iload C dX2_putSupply_7 3 rfl ?_
      refine V_iload_n C dX2_putSupply_9 1 rfl ?_
      obtain ⟨hJt, hJf⟩ := hJ
      refine V_icmp_ge C (tgt := 34) dX2_putSupply_10 rfl (fun hc3 => ?_) (fun hc3 => ?_)
      · have hJ := hJt hc3; clear hJt hJf
        exact V_vret C hr hlocks dX2_putSupply_34 hJ
      · have hJ := hJf hc3; clear hJt hJf
        refine V_iload C dX2_putSupply_13 3 rfl ?_
        refine V_bipush (v := 24) C dX2_putSupply_15 cb_24 ?_
        obtain ⟨hJt, hJf⟩ := hJ
        refine V_icmp_ge C (tgt := 34) dX2_putSupply_17 rfl (fun hc4 => ?_) (fun hc4 => ?_)
        · have hJ := hJt hc4; clear hJt hJf
          exact V_vret C hr hlocks dX2_putSupply_34 hJ
        · have hJ := hJf hc4; clear hJt hJf
          refine V_aload_n C dX2_putSupply_20 0 rfl ?_
          refine V_get (ci := 2) C (ok7 hj0) uX2 rfl 3 (Nat.le_of_ble_eq_true rfl) rfl rfl f27 dX2_putSupply_21 ?_
          refine V_iload C dX2_putSupply_24 3 rfl ?_
          refine V_iload_n C dX2_putSupply_26 2 rfl ?_
          obtain ⟨hv5, hJ⟩ := hJ
          refine V_iast C (ok11 hj0) 0 rfl (fun _ => rfl) rfl hv5 dX2_putSupply_27 (fun τ6 hτ6 => ?_)
          replace hJ := hJ τ6 hτ6
          obtain ⟨x4_7, hx4_7⟩ : ∃ y : Int32, y = x4_2 + 1 := ⟨_, rfl⟩
          replace hJ := hJ x4_7 hx4_7
          refine V_iinc (v := x4_7) (lv' := [(4, .int x4_7), (0, .ref (ad (7, j0, 0))), (2, .int x2), (3, .int x3)]) C dX2_putSupply_28 3 rfl (by rw [hx4_7]; exact congrArg _ ci_1) (by decide) rfl ?_
          refine V_goto C (tgt := 7) dX2_putSupply_31 rfl ?_
          refine V_sub (lv' := [(0, .ref (ad (7, j0, 0))), (2, .int x2), (3, .int x3), (4, .int x4_7)]) [1, 2, 3, 0] rfl ?_
          exact ih7 x4_7 τ6 (Nat.lt_of_lt_of_le hJ.2 (Nat.le_of_lt_succ hμ7)) hJ.1
  exact L7 _ x4_1 σ (Nat.lt_succ_self _) hI7
set_option maxHeartbeats 4000000 in
set_option maxRecDepth 100000 in
theorem M_X5_setSupply (l : Launch) (D : va_G) (tc : Nat → ClassId) (ad : Oid → Nat) (A : Nat → Prop) (x1 : Int32) (x2 : Int32) (x3 : Int32) {σ : Mem} {Qr : Int32 → Mem → Prop} (hJ : J_X5_setSupply x1 x2 x3 σ Qr) : Met l yX5_setSupply wsX5_setSupply ({ frames := 2, cells := 0, slots := 0, locals := 43 }) (va_Pc [.ref (ad (0, 0, 0)), .int x1, .int x2, .int x3] (WdI D vwCl (tysX tc) idsX ad (ceX tc ad) A σ)) (va_Qi (fun (r : Int32) (u : Mem) => Qr r u) (WdO D vwCl idsX ad (ceX tc ad) A) A) 0 0 A := by
  refine V_meti (cc := cX5_setSupply) (nL := 5) (ret := (some .int)) (own := RX5) rfl (plainFor_of_name (by decide)) rfl rfl (Nat.le_of_ble_eq_true rfl) ?_
  intro p e s m below meth c C hr hlocks
  refine V_sub (lv' := [(0, .ref (ad (0, 0, 0))), (1, .int x1), (2, .int x2), (3, .int x3)]) [0, 1, 2, 3] rfl ?_
  have f10 : Cond.fieldLink RX5 10 (TX5 0).1 (TX5 0).2.1 (TX5 0).2.2.1 ∈ wsX5_setSupply := List.mem_of_getElem? (i := 1) rfl
  have uX5 : ∀ w ∈ u_ws RX5 TX5 6, w ∈ wsX5_setSupply := by decide +kernel
  have f125 : Cond.fieldLink RX5 125 (TX2 3).1 (TX2 3).2.1 (TX2 3).2.2.1 ∈ wsX5_setSupply := List.mem_of_getElem? (i := 2) rfl
  have uX2 : ∀ w ∈ u_ws RX2 TX2 10, w ∈ wsX5_setSupply := by decide +kernel
  unfold J_X5_setSupply at hJ
  refine V_iload_n C dX5_setSupply_0 1 rfl ?_
  refine V_iload_n C dX5_setSupply_1 2 rfl ?_
  refine V_cSi (st := []) C ⟨Nat.zero_le _, Nat.zero_le _⟩ (M_X5_areHours l D tc ad A x1 x2 hJ) (va_cwS 2 C.1.2.2.2.2 gX5_setSupply_X5_areHours rfl rfl rfl (by decide +kernel) ⟨Nat.le_of_ble_eq_true rfl, Nat.le_of_ble_eq_true rfl⟩) rfl rfl (Nat.le_of_ble_eq_true rfl) dX5_setSupply_2 (fun r1 τ1 hJ => ?_)
  obtain ⟨hJt, hJf⟩ := hJ
  refine V_if_eq C (tgt := 19) dX5_setSupply_5 rfl (fun hc2 => ?_) (fun hc2 => ?_)
  · have hJ := hJt hc2; clear hJt hJf
    refine V_bipush (v := (-102)) C dX5_setSupply_19 cb_m102 ?_
    exact V_iret C hr hlocks dX5_setSupply_21 hJ
  · have hJ := hJf hc2; clear hJt hJf
    refine V_iload_n C dX5_setSupply_8 3 rfl ?_
    refine V_iconst (v := 0) C dX5_setSupply_9 ci_0 ?_
    refine V_sipush (v := 200) C dX5_setSupply_10 cs_200 ?_
    refine V_cSi (st := []) C ⟨Nat.zero_le _, Nat.zero_le _⟩ (M_X5_isWithin l D tc ad A x3 0 200 hJ) (va_cwS 3 C.1.2.2.2.2 gX5_setSupply_X5_isWithin rfl rfl rfl (by decide +kernel) ⟨Nat.le_of_ble_eq_true rfl, Nat.le_of_ble_eq_true rfl⟩) rfl rfl (Nat.le_of_ble_eq_true rfl) dX5_setSupply_13 (fun r3 τ3 hJ => ?_)
    obtain ⟨hJt, hJf⟩ := hJ
    refine V_if_ne C (tgt := 22) dX5_setSupply_16 rfl (fun hc4 => ?_) (fun hc4 => ?_)
    · have hJ := hJt hc4; clear hJt hJf
      refine V_aload_n C dX5_setSupply_22 0 rfl ?_
      refine V_get (ci := 5) C okX_0_0 uX5 rfl 0 (Nat.le_of_ble_eq_true rfl) rfl rfl f10 dX5_setSupply_23 ?_
      refine V_get (ci := 2) C (ok7 (by decide)) uX2 rfl 3 (Nat.le_of_ble_eq_true rfl) rfl rfl f125 dX5_setSupply_26 ?_
      refine V_iload_n C dX5_setSupply_29 1 rfl ?_
      obtain ⟨hv5, hJ⟩ := hJ
      refine V_iald C (ok11 (by decide)) 0 rfl rfl rfl hv5 dX5_setSupply_30 ?_
      refine V_topi (fun x4_6 hx4_6 => ?_)
      replace hJ := hJ x4_6 hx4_6
      refine V_istore (lv' := [(4, .int x4_6), (0, .ref (ad (0, 0, 0))), (1, .int x1), (2, .int x2), (3, .int x3)]) C dX5_setSupply_31 (by decide) rfl ?_
      refine V_aload_n C dX5_setSupply_33 1 rfl ?_
      refine V_get (ci := 5) C okX_0_0 uX5 rfl 0 (Nat.le_of_ble_eq_true rfl) rfl rfl f10 dX5_setSupply_34 ?_
      refine V_iload_n C dX5_setSupply_37 2 rfl ?_
      refine V_iload_n C dX5_setSupply_38 3 rfl ?_
      refine V_iload_n C dX5_setSupply_39 4 rfl ?_
      refine V_cVv (st := []) (ci := 2) C (ok7 (by decide)) ⟨Nat.zero_le _, Nat.zero_le _⟩ (M_X2_putSupply l D tc ad A 0 (by decide) x1 x2 x3 hJ) (cwV 3 C.1.2.2.2.2 gX5_setSupply_X2_putSupply rfl rfl rfl (by decide +kernel) ⟨Nat.le_of_ble_eq_true rfl, Nat.le_of_ble_eq_true rfl⟩) rfl rfl rfl rfl (Nat.le_of_ble_eq_true rfl) dX5_setSupply_40 (fun τ7 hJ => ?_)
      refine V_iload C dX5_setSupply_43 0 rfl ?_
      exact V_iret C hr hlocks dX5_setSupply_45 hJ
    · have hJ := hJf hc4; clear hJt hJf
      refine V_bipush (v := (-102)) C dX5_setSupply_19 cb_m102 ?_
      exact V_iret C hr hlocks dX5_setSupply_21 hJ
set_option maxHeartbeats 4000000 in
set_option maxRecDepth 100000 in
theorem M_X5_setRule (l : Launch) (D : va_G) (tc : Nat → ClassId) (ad : Oid → Nat) (A : Nat → Prop) (x1 : Int32) {σ : Mem} {Qr : Int32 → Mem → Prop} (hJ : J_X5_setRule x1 σ Qr) : Met l yX5_setRule wsX5_setRule ({ frames := 1, cells := 0, slots := 0, locals := 22 }) (va_Pc [.ref (ad (0, 0, 0)), .int x1] (WdI D vwCl (tysX tc) idsX ad (ceX tc ad) A σ)) (va_Qi (fun (r : Int32) (u : Mem) => Qr r u) (WdO D vwCl idsX ad (ceX tc ad) A) A) 0 0 A := by
  refine V_meti (cc := cX5_setRule) (nL := 3) (ret := (some .int)) (own := RX5) rfl (plainFor_of_name (by decide)) rfl rfl (Nat.le_of_ble_eq_true rfl) ?_
  intro p e s m below meth c C hr hlocks
  refine V_sub (lv' := [(0, .ref (ad (0, 0, 0))), (1, .int x1)]) [0, 1] rfl ?_
  have f10 : Cond.fieldLink RX5 10 (TX5 0).1 (TX5 0).2.1 (TX5 0).2.2.1 ∈ wsX5_setRule := List.mem_of_getElem? (i := 1) rfl
  have uX5 : ∀ w ∈ u_ws RX5 TX5 6, w ∈ wsX5_setRule := by decide +kernel
  have f132 : Cond.fieldLink RX5 132 (TX2 7).1 (TX2 7).2.1 (TX2 7).2.2.1 ∈ wsX5_setRule := List.mem_of_getElem? (i := 2) rfl
  have uX2 : ∀ w ∈ u_ws RX2 TX2 10, w ∈ wsX5_setRule := by decide +kernel
  unfold J_X5_setRule at hJ
  refine V_iload_n C dX5_setRule_0 1 rfl ?_
  refine V_iconst (v := 0) C dX5_setRule_1 ci_0 ?_
  refine V_iconst (v := 2) C dX5_setRule_2 ci_2 ?_
  refine V_cSi (st := []) C ⟨Nat.zero_le _, Nat.zero_le _⟩ (M_X5_isWithin l D tc ad A x1 0 2 hJ) (va_cwS 3 C.1.2.2.2.2 gX5_setRule_X5_isWithin rfl rfl rfl (by decide +kernel) ⟨Nat.le_of_ble_eq_true rfl, Nat.le_of_ble_eq_true rfl⟩) rfl rfl (Nat.le_of_ble_eq_true rfl) dX5_setRule_3 (fun r1 τ1 hJ => ?_)
  obtain ⟨hJt, hJf⟩ := hJ
  refine V_if_ne C (tgt := 12) dX5_setRule_6 rfl (fun hc2 => ?_) (fun hc2 => ?_)
  · have hJ := hJt hc2; clear hJt hJf
    refine V_aload_n C dX5_setRule_12 0 rfl ?_
    refine V_get (ci := 5) C okX_0_0 uX5 rfl 0 (Nat.le_of_ble_eq_true rfl) rfl rfl f10 dX5_setRule_13 ?_
    refine V_get (ci := 2) C (ok7 (by decide)) uX2 rfl 7 (Nat.le_of_ble_eq_true rfl) rfl rfl f132 dX5_setRule_16 ?_
    refine V_topi (fun x2_3 hx2_3 => ?_)
    replace hJ := hJ x2_3 hx2_3
    refine V_istore_n (lv' := [(2, .int x2_3), (0, .ref (ad (0, 0, 0))), (1, .int x1)]) C dX5_setRule_19 (by decide) rfl ?_
    refine V_aload_n C dX5_setRule_20 1 rfl ?_
    refine V_get (ci := 5) C okX_0_0 uX5 rfl 0 (Nat.le_of_ble_eq_true rfl) rfl rfl f10 dX5_setRule_21 ?_
    refine V_iload_n C dX5_setRule_24 2 rfl ?_
    refine V_put (ci := 2) C (ok7 (by decide)) uX2 tyX2 tyX2_ok nmX2 rfl 7 (Nat.le_of_ble_eq_true rfl) rfl rfl f132 rfl (ty := .int) (by decide +kernel) rfl rfl (Nat.le_of_ble_eq_true rfl) dX5_setRule_25 (fun τ4 hτ4 => ?_)
    replace hJ := hJ τ4 hτ4
    refine V_iload_n C dX5_setRule_28 0 rfl ?_
    exact V_iret C hr hlocks dX5_setRule_29 hJ
  · have hJ := hJf hc2; clear hJt hJf
    refine V_bipush (v := (-102)) C dX5_setRule_9 cb_m102 ?_
    exact V_iret C hr hlocks dX5_setRule_11 hJ
set_option maxHeartbeats 4000000 in
set_option maxRecDepth 100000 in
theorem M_X2_hasRoomForDitch (l : Launch) (D : va_G) (tc : Nat → ClassId) (ad : Oid → Nat) (A : Nat → Prop) (j0 : Nat) (hj0 : j0 < 4) {σ : Mem} {Qr : Int32 → Mem → Prop} (hJ : J_X2_hasRoomForDitch j0 σ Qr) : Met l yX2_hasRoomForDitch wsX2_hasRoomForDitch ({ frames := 0, cells := 0, slots := 0, locals := 0 }) (va_Pc [.ref (ad (7, j0, 0))] (WdI D vwCl (tysX tc) idsX ad (ceX tc ad) A σ)) (va_Qi (fun (r : Int32) (u : Mem) => Qr r u) (WdO D vwCl idsX ad (ceX tc ad) A) A) 0 0 A := by
  refine V_meti (cc := cX2_hasRoomForDitch) (nL := 1) (ret := (some .boolean)) (own := RX2) rfl (plainFor_of_name (by decide)) rfl rfl (Nat.le_of_ble_eq_true rfl) ?_
  intro p e s m below meth c C hr hlocks
  refine V_sub (lv' := [(0, .ref (ad (7, j0, 0)))]) [0] rfl ?_
  have f49 : Cond.fieldLink RX2 49 (TX2 5).1 (TX2 5).2.1 (TX2 5).2.2.1 ∈ wsX2_hasRoomForDitch := List.mem_of_getElem? (i := 1) rfl
  have uX2 : ∀ w ∈ u_ws RX2 TX2 10, w ∈ wsX2_hasRoomForDitch := by decide +kernel
  unfold J_X2_hasRoomForDitch at hJ
  refine V_aload_n C dX2_hasRoomForDitch_0 0 rfl ?_
  refine V_get (ci := 2) C (ok7 hj0) uX2 rfl 5 (Nat.le_of_ble_eq_true rfl) rfl rfl f49 dX2_hasRoomForDitch_1 ?_
  refine V_bipush (v := 10) C dX2_hasRoomForDitch_4 cb_10 ?_
  obtain ⟨hJt, hJf⟩ := hJ
  refine V_icmp_ge C (tgt := 13) dX2_hasRoomForDitch_6 rfl (fun hc1 => ?_) (fun hc1 => ?_)
  · have hJ := hJt hc1; clear hJt hJf
    refine V_iconst (v := 0) C dX2_hasRoomForDitch_13 ci_0 ?_
    exact V_zret C hr hlocks (Or.inl rfl) dX2_hasRoomForDitch_14 hJ
  · have hJ := hJf hc1; clear hJt hJf
    refine V_iconst (v := 1) C dX2_hasRoomForDitch_9 ci_1 ?_
    refine V_goto C (tgt := 14) dX2_hasRoomForDitch_10 rfl ?_
    exact V_zret C hr hlocks (Or.inr rfl) dX2_hasRoomForDitch_14 hJ
set_option maxHeartbeats 4000000 in
set_option maxRecDepth 100000 in
theorem M_X0_begin (l : Launch) (D : va_G) (tc : Nat → ClassId) (ad : Oid → Nat) (A : Nat → Prop) (j0 : Nat) (i0 : Nat) (hj0 : j0 < 4) (hi0 : i0 < 10) (x1 : Int32) (x2 : Int32) (x3 : Int32) {σ : Mem} {Qr : Mem → Prop} (hJ : J_X0_begin j0 i0 x1 x2 x3 σ Qr) : Met l yX0_begin wsX0_begin ({ frames := 0, cells := 0, slots := 0, locals := 0 }) (va_Pc [.ref (ad (13, j0, i0)), .int x1, .int x2, .int x3] (WdI D vwCl (tysX tc) idsX ad (ceX tc ad) A σ)) (va_Qv (fun (u : Mem) => Qr u) (WdO D vwCl idsX ad (ceX tc ad) A) A) 0 0 A := by
  refine V_metv (cc := cX0_begin) (nL := 4) (ret := none) (own := RX0) rfl (plainFor_of_name (by decide)) rfl rfl (Nat.le_of_ble_eq_true rfl) ?_
  intro p e s m below meth c C hr hlocks
  refine V_sub (lv' := [(0, .ref (ad (13, j0, i0))), (1, .int x1), (2, .int x2), (3, .int x3)]) [0, 1, 2, 3] rfl ?_
  have f7 : Cond.fieldLink RX0 7 (TX0 0).1 (TX0 0).2.1 (TX0 0).2.2.1 ∈ wsX0_begin := List.mem_of_getElem? (i := 1) rfl
  have uX0 : ∀ w ∈ u_ws RX0 TX0 3, w ∈ wsX0_begin := by decide +kernel
  have f13 : Cond.fieldLink RX0 13 (TX0 1).1 (TX0 1).2.1 (TX0 1).2.2.1 ∈ wsX0_begin := List.mem_of_getElem? (i := 2) rfl
  have f16 : Cond.fieldLink RX0 16 (TX0 2).1 (TX0 2).2.1 (TX0 2).2.2.1 ∈ wsX0_begin := List.mem_of_getElem? (i := 3) rfl
  unfold J_X0_begin at hJ
  refine V_aload_n C dX0_begin_0 0 rfl ?_
  refine V_iload_n C dX0_begin_1 1 rfl ?_
  refine V_put (ci := 0) C (ok13 hj0 hi0) uX0 tyX0 tyX0_ok nmX0 rfl 0 (Nat.le_of_ble_eq_true rfl) rfl rfl f7 rfl (ty := .int) (by decide +kernel) rfl rfl (Nat.le_of_ble_eq_true rfl) dX0_begin_2 (fun τ1 hτ1 => ?_)
  replace hJ := hJ τ1 hτ1
  refine V_aload_n C dX0_begin_5 0 rfl ?_
  refine V_iload_n C dX0_begin_6 2 rfl ?_
  refine V_put (ci := 0) C (ok13 hj0 hi0) uX0 tyX0 tyX0_ok nmX0 rfl 1 (Nat.le_of_ble_eq_true rfl) rfl rfl f13 rfl (ty := .int) (by decide +kernel) rfl rfl (Nat.le_of_ble_eq_true rfl) dX0_begin_7 (fun τ2 hτ2 => ?_)
  replace hJ := hJ τ2 hτ2
  refine V_aload_n C dX0_begin_10 0 rfl ?_
  refine V_iload_n C dX0_begin_11 3 rfl ?_
  refine V_put (ci := 0) C (ok13 hj0 hi0) uX0 tyX0 tyX0_ok nmX0 rfl 2 (Nat.le_of_ble_eq_true rfl) rfl rfl f16 rfl (ty := .int) (by decide +kernel) rfl rfl (Nat.le_of_ble_eq_true rfl) dX0_begin_12 (fun τ3 hτ3 => ?_)
  replace hJ := hJ τ3 hτ3
  exact V_vret C hr hlocks dX0_begin_15 hJ
set_option maxHeartbeats 4000000 in
set_option maxRecDepth 100000 in
theorem M_X2_putDitch (l : Launch) (D : va_G) (tc : Nat → ClassId) (ad : Oid → Nat) (A : Nat → Prop) (j0 : Nat) (hj0 : j0 < 4) (x1 : Int32) (x2 : Int32) (x3 : Int32) {σ : Mem} {Qr : Mem → Prop} (hJ : J_X2_putDitch j0 x1 x2 x3 σ Qr) : Met l yX2_putDitch wsX2_putDitch ({ frames := 1, cells := 0, slots := 0, locals := 23 }) (va_Pc [.ref (ad (7, j0, 0)), .int x1, .int x2, .int x3] (WdI D vwCl (tysX tc) idsX ad (ceX tc ad) A σ)) (va_Qv (fun (u : Mem) => Qr u) (WdO D vwCl idsX ad (ceX tc ad) A) A) 0 0 A := by
  refine V_metv (cc := cX2_putDitch) (nL := 4) (ret := none) (own := RX2) rfl (plainFor_of_name (by decide)) rfl rfl (Nat.le_of_ble_eq_true rfl) ?_
  intro p e s m below meth c C hr hlocks
  refine V_sub (lv' := [(0, .ref (ad (7, j0, 0))), (1, .int x1), (2, .int x2), (3, .int x3)]) [0, 1, 2, 3] rfl ?_
  have f11 : Cond.fieldLink RX2 11 (TX2 0).1 (TX2 0).2.1 (TX2 0).2.2.1 ∈ wsX2_putDitch := List.mem_of_getElem? (i := 1) rfl
  have uX2 : ∀ w ∈ u_ws RX2 TX2 10, w ∈ wsX2_putDitch := by decide +kernel
  have f49 : Cond.fieldLink RX2 49 (TX2 5).1 (TX2 5).2.1 (TX2 5).2.2.1 ∈ wsX2_putDitch := List.mem_of_getElem? (i := 2) rfl
  unfold J_X2_putDitch at hJ
  refine V_aload_n C dX2_putDitch_0 0 rfl ?_
  refine V_cVi (st := []) (ci := 2) C (ok7 hj0) ⟨Nat.zero_le _, Nat.zero_le _⟩ (M_X2_hasRoomForDitch l D tc ad A j0 hj0 hJ) (cwV 0 C.1.2.2.2.2 gX2_putDitch_X2_hasRoomForDitch rfl rfl rfl (by decide +kernel) ⟨Nat.le_of_ble_eq_true rfl, Nat.le_of_ble_eq_true rfl⟩) rfl rfl rfl rfl (Nat.le_of_ble_eq_true rfl) dX2_putDitch_1 (fun r1 τ1 hJ => ?_)
  obtain ⟨hJt, hJf⟩ := hJ
  refine V_if_ne C (tgt := 8) dX2_putDitch_4 rfl (fun hc2 => ?_) (fun hc2 => ?_)
  · have hJ := hJt hc2; clear hJt hJf
    refine V_aload_n C dX2_putDitch_8 0 rfl ?_
    refine V_get (ci := 2) C (ok7 hj0) uX2 rfl 0 (Nat.le_of_ble_eq_true rfl) rfl rfl f11 dX2_putDitch_9 ?_
    refine V_aload_n C dX2_putDitch_12 0 rfl ?_
    refine V_get (ci := 2) C (ok7 hj0) uX2 rfl 5 (Nat.le_of_ble_eq_true rfl) rfl rfl f49 dX2_putDitch_13 ?_
    obtain ⟨hv3, hJ⟩ := hJ
    refine V_aald (o' := (13, j0, ((τ1 (7, j0, 0) 5).toNatClampNeg))) C (ok8 hj0) 3 rfl rfl hv3 rfl dX2_putDitch_16 ?_
    refine V_iload_n C dX2_putDitch_17 1 rfl ?_
    refine V_iload_n C dX2_putDitch_18 2 rfl ?_
    refine V_iload_n C dX2_putDitch_19 3 rfl ?_
    refine V_cVv (st := []) (ci := 0) C (ok13 hj0 (vp_lt hv3)) ⟨Nat.zero_le _, Nat.zero_le _⟩ (M_X0_begin l D tc ad A j0 ((τ1 (7, j0, 0) 5).toNatClampNeg) hj0 (vp_lt hv3) x1 x2 x3 hJ) (cwV 3 C.1.2.2.2.2 gX2_putDitch_X0_begin rfl rfl rfl (by decide +kernel) ⟨Nat.le_of_ble_eq_true rfl, Nat.le_of_ble_eq_true rfl⟩) rfl rfl rfl rfl (Nat.le_of_ble_eq_true rfl) dX2_putDitch_20 (fun τ4 hJ => ?_)
    refine V_aload_n C dX2_putDitch_23 0 rfl ?_
    refine V_dup C dX2_putDitch_24 rfl ?_
    refine V_get (ci := 2) C (ok7 hj0) uX2 rfl 5 (Nat.le_of_ble_eq_true rfl) rfl rfl f49 dX2_putDitch_25 ?_
    refine V_iconst (v := 1) C dX2_putDitch_28 ci_1 ?_
    refine V_iadd C dX2_putDitch_29 ?_
    refine V_put (ci := 2) C (ok7 hj0) uX2 tyX2 tyX2_ok nmX2 rfl 5 (Nat.le_of_ble_eq_true rfl) rfl rfl f49 rfl (ty := .int) (by decide +kernel) rfl rfl (Nat.le_of_ble_eq_true rfl) dX2_putDitch_30 (fun τ5 hτ5 => ?_)
    replace hJ := hJ τ5 hτ5
    exact V_vret C hr hlocks dX2_putDitch_33 hJ
  · have hJ := hJf hc2; clear hJt hJf
    exact V_vret C hr hlocks dX2_putDitch_7 hJ
set_option maxHeartbeats 4000000 in
set_option maxRecDepth 100000 in
theorem M_X5_addDitch (l : Launch) (D : va_G) (tc : Nat → ClassId) (ad : Oid → Nat) (A : Nat → Prop) (x1 : Int32) (x2 : Int32) (x3 : Int32) {σ : Mem} {Qr : Int32 → Mem → Prop} (hJ : J_X5_addDitch x1 x2 x3 σ Qr) : Met l yX5_addDitch wsX5_addDitch ({ frames := 2, cells := 0, slots := 0, locals := 46 }) (va_Pc [.ref (ad (0, 0, 0)), .int x1, .int x2, .int x3] (WdI D vwCl (tysX tc) idsX ad (ceX tc ad) A σ)) (va_Qi (fun (r : Int32) (u : Mem) => Qr r u) (WdO D vwCl idsX ad (ceX tc ad) A) A) 0 0 A := by
  refine V_meti (cc := cX5_addDitch) (nL := 4) (ret := (some .int)) (own := RX5) rfl (plainFor_of_name (by decide)) rfl rfl (Nat.le_of_ble_eq_true rfl) ?_
  intro p e s m below meth c C hr hlocks
  refine V_sub (lv' := [(0, .ref (ad (0, 0, 0))), (1, .int x1), (2, .int x2), (3, .int x3)]) [0, 1, 2, 3] rfl ?_
  have f10 : Cond.fieldLink RX5 10 (TX5 0).1 (TX5 0).2.1 (TX5 0).2.2.1 ∈ wsX5_addDitch := List.mem_of_getElem? (i := 1) rfl
  have uX5 : ∀ w ∈ u_ws RX5 TX5 6, w ∈ wsX5_addDitch := by decide +kernel
  have f57 : Cond.fieldLink RX5 57 (TX2 5).1 (TX2 5).2.1 (TX2 5).2.2.1 ∈ wsX5_addDitch := List.mem_of_getElem? (i := 2) rfl
  have uX2 : ∀ w ∈ u_ws RX2 TX2 10, w ∈ wsX5_addDitch := by decide +kernel
  unfold J_X5_addDitch at hJ
  refine V_aload_n C dX5_addDitch_0 0 rfl ?_
  refine V_get (ci := 5) C okX_0_0 uX5 rfl 0 (Nat.le_of_ble_eq_true rfl) rfl rfl f10 dX5_addDitch_1 ?_
  refine V_iload_n C dX5_addDitch_4 1 rfl ?_
  refine V_cVi (st := []) (ci := 2) C (ok7 (by decide)) ⟨Nat.zero_le _, Nat.zero_le _⟩ (M_X2_hasDitch l D tc ad A 0 (by decide) x1 hJ) (cwV 1 C.1.2.2.2.2 gX5_addDitch_X2_hasDitch rfl rfl rfl (by decide +kernel) ⟨Nat.le_of_ble_eq_true rfl, Nat.le_of_ble_eq_true rfl⟩) rfl rfl rfl rfl (Nat.le_of_ble_eq_true rfl) dX5_addDitch_5 (fun r1 τ1 hJ => ?_)
  obtain ⟨hJt, hJf⟩ := hJ
  refine V_if_ne C (tgt := 14) dX5_addDitch_8 rfl (fun hc2 => ?_) (fun hc2 => ?_)
  · have hJ := hJt hc2; clear hJt hJf
    refine V_iload_n C dX5_addDitch_14 2 rfl ?_
    refine V_iload_n C dX5_addDitch_15 3 rfl ?_
    refine V_cSi (st := []) C ⟨Nat.zero_le _, Nat.zero_le _⟩ (M_X5_areGateAndLoss l D tc ad A x2 x3 hJ) (va_cwS 2 C.1.2.2.2.2 gX5_addDitch_X5_areGateAndLoss rfl rfl rfl (by decide +kernel) ⟨Nat.le_of_ble_eq_true rfl, Nat.le_of_ble_eq_true rfl⟩) rfl rfl (Nat.le_of_ble_eq_true rfl) dX5_addDitch_16 (fun r3 τ3 hJ => ?_)
    obtain ⟨hJt, hJf⟩ := hJ
    refine V_if_ne C (tgt := 25) dX5_addDitch_19 rfl (fun hc4 => ?_) (fun hc4 => ?_)
    · have hJ := hJt hc4; clear hJt hJf
      refine V_aload_n C dX5_addDitch_25 0 rfl ?_
      refine V_get (ci := 5) C okX_0_0 uX5 rfl 0 (Nat.le_of_ble_eq_true rfl) rfl rfl f10 dX5_addDitch_26 ?_
      refine V_cVi (st := []) (ci := 2) C (ok7 (by decide)) ⟨Nat.zero_le _, Nat.zero_le _⟩ (M_X2_hasRoomForDitch l D tc ad A 0 (by decide) hJ) (cwV 0 C.1.2.2.2.2 gX5_addDitch_X2_hasRoomForDitch rfl rfl rfl (by decide +kernel) ⟨Nat.le_of_ble_eq_true rfl, Nat.le_of_ble_eq_true rfl⟩) rfl rfl rfl rfl (Nat.le_of_ble_eq_true rfl) dX5_addDitch_29 (fun r5 τ5 hJ => ?_)
      obtain ⟨hJt, hJf⟩ := hJ
      refine V_if_ne C (tgt := 38) dX5_addDitch_32 rfl (fun hc6 => ?_) (fun hc6 => ?_)
      · have hJ := hJt hc6; clear hJt hJf
        refine V_aload_n C dX5_addDitch_38 0 rfl ?_
        refine V_get (ci := 5) C okX_0_0 uX5 rfl 0 (Nat.le_of_ble_eq_true rfl) rfl rfl f10 dX5_addDitch_39 ?_
        refine V_iload_n C dX5_addDitch_42 1 rfl ?_
        refine V_iload_n C dX5_addDitch_43 2 rfl ?_
        refine V_iload_n C dX5_addDitch_44 3 rfl ?_
        refine V_cVv (st := []) (ci := 2) C (ok7 (by decide)) ⟨Nat.zero_le _, Nat.zero_le _⟩ (M_X2_putDitch l D tc ad A 0 (by decide) x1 x2 x3 hJ) (cwV 3 C.1.2.2.2.2 gX5_addDitch_X2_putDitch rfl rfl rfl (by decide +kernel) ⟨Nat.le_of_ble_eq_true rfl, Nat.le_of_ble_eq_true rfl⟩) rfl rfl rfl rfl (Nat.le_of_ble_eq_true rfl) dX5_addDitch_45 (fun τ7 hJ => ?_)
        refine V_aload_n C dX5_addDitch_48 0 rfl ?_
        refine V_get (ci := 5) C okX_0_0 uX5 rfl 0 (Nat.le_of_ble_eq_true rfl) rfl rfl f10 dX5_addDitch_49 ?_
        refine V_get (ci := 2) C (ok7 (by decide)) uX2 rfl 5 (Nat.le_of_ble_eq_true rfl) rfl rfl f57 dX5_addDitch_52 ?_
        refine V_iconst (v := 1) C dX5_addDitch_55 ci_1 ?_
        refine V_isub C dX5_addDitch_56 ?_
        exact V_iret C hr hlocks dX5_addDitch_57 hJ
      · have hJ := hJf hc6; clear hJt hJf
        refine V_bipush (v := (-104)) C dX5_addDitch_35 cb_m104 ?_
        exact V_iret C hr hlocks dX5_addDitch_37 hJ
    · have hJ := hJf hc4; clear hJt hJf
      refine V_bipush (v := (-102)) C dX5_addDitch_22 cb_m102 ?_
      exact V_iret C hr hlocks dX5_addDitch_24 hJ
  · have hJ := hJf hc2; clear hJt hJf
    refine V_bipush (v := (-101)) C dX5_addDitch_11 cb_m101 ?_
    exact V_iret C hr hlocks dX5_addDitch_13 hJ
set_option maxHeartbeats 4000000 in
set_option maxRecDepth 100000 in
theorem M_X2_hasRoomForUser (l : Launch) (D : va_G) (tc : Nat → ClassId) (ad : Oid → Nat) (A : Nat → Prop) (j0 : Nat) (hj0 : j0 < 4) {σ : Mem} {Qr : Int32 → Mem → Prop} (hJ : J_X2_hasRoomForUser j0 σ Qr) : Met l yX2_hasRoomForUser wsX2_hasRoomForUser ({ frames := 0, cells := 0, slots := 0, locals := 0 }) (va_Pc [.ref (ad (7, j0, 0))] (WdI D vwCl (tysX tc) idsX ad (ceX tc ad) A σ)) (va_Qi (fun (r : Int32) (u : Mem) => Qr r u) (WdO D vwCl idsX ad (ceX tc ad) A) A) 0 0 A := by
  refine V_meti (cc := cX2_hasRoomForUser) (nL := 1) (ret := (some .boolean)) (own := RX2) rfl (plainFor_of_name (by decide)) rfl rfl (Nat.le_of_ble_eq_true rfl) ?_
  intro p e s m below meth c C hr hlocks
  refine V_sub (lv' := [(0, .ref (ad (7, j0, 0)))]) [0] rfl ?_
  have f64 : Cond.fieldLink RX2 64 (TX2 6).1 (TX2 6).2.1 (TX2 6).2.2.1 ∈ wsX2_hasRoomForUser := List.mem_of_getElem? (i := 1) rfl
  have uX2 : ∀ w ∈ u_ws RX2 TX2 10, w ∈ wsX2_hasRoomForUser := by decide +kernel
  unfold J_X2_hasRoomForUser at hJ
  refine V_aload_n C dX2_hasRoomForUser_0 0 rfl ?_
  refine V_get (ci := 2) C (ok7 hj0) uX2 rfl 6 (Nat.le_of_ble_eq_true rfl) rfl rfl f64 dX2_hasRoomForUser_1 ?_
  refine V_bipush (v := 12) C dX2_hasRoomForUser_4 cb_12 ?_
  obtain ⟨hJt, hJf⟩ := hJ
  refine V_icmp_ge C (tgt := 13) dX2_hasRoomForUser_6 rfl (fun hc1 => ?_) (fun hc1 => ?_)
  · have hJ := hJt hc1; clear hJt hJf
    refine V_iconst (v := 0) C dX2_hasRoomForUser_13 ci_0 ?_
    exact V_zret C hr hlocks (Or.inl rfl) dX2_hasRoomForUser_14 hJ
  · have hJ := hJf hc1; clear hJt hJf
    refine V_iconst (v := 1) C dX2_hasRoomForUser_9 ci_1 ?_
    refine V_goto C (tgt := 14) dX2_hasRoomForUser_10 rfl ?_
    exact V_zret C hr hlocks (Or.inr rfl) dX2_hasRoomForUser_14 hJ
set_option maxHeartbeats 4000000 in
set_option maxRecDepth 100000 in
theorem M_X4_begin (l : Launch) (D : va_G) (tc : Nat → ClassId) (ad : Oid → Nat) (A : Nat → Prop) (j0 : Nat) (i0 : Nat) (hj0 : j0 < 4) (hi0 : i0 < 12) (x1 : Int32) (x2 : Int32) (x3 : Int32) {σ : Mem} {Qr : Mem → Prop} (hJ : J_X4_begin j0 i0 x1 x2 x3 σ Qr) : Met l yX4_begin wsX4_begin ({ frames := 0, cells := 0, slots := 0, locals := 0 }) (va_Pc [.ref (ad (14, j0, i0)), .int x1, .int x2, .int x3] (WdI D vwCl (tysX tc) idsX ad (ceX tc ad) A σ)) (va_Qv (fun (u : Mem) => Qr u) (WdO D vwCl idsX ad (ceX tc ad) A) A) 0 0 A := by
  refine V_metv (cc := cX4_begin) (nL := 4) (ret := none) (own := RX4) rfl (plainFor_of_name (by decide)) rfl rfl (Nat.le_of_ble_eq_true rfl) ?_
  intro p e s m below meth c C hr hlocks
  refine V_sub (lv' := [(0, .ref (ad (14, j0, i0))), (1, .int x1), (2, .int x2), (3, .int x3)]) [0, 1, 2, 3] rfl ?_
  have f7 : Cond.fieldLink RX4 7 (TX4 0).1 (TX4 0).2.1 (TX4 0).2.2.1 ∈ wsX4_begin := List.mem_of_getElem? (i := 1) rfl
  have uX4 : ∀ w ∈ u_ws RX4 TX4 12, w ∈ wsX4_begin := by decide +kernel
  have f13 : Cond.fieldLink RX4 13 (TX4 1).1 (TX4 1).2.1 (TX4 1).2.2.1 ∈ wsX4_begin := List.mem_of_getElem? (i := 2) rfl
  have f16 : Cond.fieldLink RX4 16 (TX4 2).1 (TX4 2).2.1 (TX4 2).2.2.1 ∈ wsX4_begin := List.mem_of_getElem? (i := 3) rfl
  have f19 : Cond.fieldLink RX4 19 (TX4 3).1 (TX4 3).2.1 (TX4 3).2.2.1 ∈ wsX4_begin := List.mem_of_getElem? (i := 4) rfl
  have f22 : Cond.fieldLink RX4 22 (TX4 4).1 (TX4 4).2.1 (TX4 4).2.2.1 ∈ wsX4_begin := List.mem_of_getElem? (i := 5) rfl
  have f25 : Cond.fieldLink RX4 25 (TX4 5).1 (TX4 5).2.1 (TX4 5).2.2.1 ∈ wsX4_begin := List.mem_of_getElem? (i := 6) rfl
  have f28 : Cond.fieldLink RX4 28 (TX4 6).1 (TX4 6).2.1 (TX4 6).2.2.1 ∈ wsX4_begin := List.mem_of_getElem? (i := 7) rfl
  have f31 : Cond.fieldLink RX4 31 (TX4 7).1 (TX4 7).2.1 (TX4 7).2.2.1 ∈ wsX4_begin := List.mem_of_getElem? (i := 8) rfl
  have f34 : Cond.fieldLink RX4 34 (TX4 8).1 (TX4 8).2.1 (TX4 8).2.2.1 ∈ wsX4_begin := List.mem_of_getElem? (i := 9) rfl
  have f37 : Cond.fieldLink RX4 37 (TX4 9).1 (TX4 9).2.1 (TX4 9).2.2.1 ∈ wsX4_begin := List.mem_of_getElem? (i := 10) rfl
  have f40 : Cond.fieldLink RX4 40 (TX4 10).1 (TX4 10).2.1 (TX4 10).2.2.1 ∈ wsX4_begin := List.mem_of_getElem? (i := 11) rfl
  have f43 : Cond.fieldLink RX4 43 (TX4 11).1 (TX4 11).2.1 (TX4 11).2.2.1 ∈ wsX4_begin := List.mem_of_getElem? (i := 12) rfl
  unfold J_X4_begin at hJ
  refine V_aload_n C dX4_begin_0 0 rfl ?_
  refine V_iload_n C dX4_begin_1 1 rfl ?_
  refine V_put (ci := 4) C (ok14 hj0 hi0) uX4 tyX4 tyX4_ok nmX4 rfl 0 (Nat.le_of_ble_eq_true rfl) rfl rfl f7 rfl (ty := .int) (by decide +kernel) rfl rfl (Nat.le_of_ble_eq_true rfl) dX4_begin_2 (fun τ1 hτ1 => ?_)
  replace hJ := hJ τ1 hτ1
  refine V_aload_n C dX4_begin_5 0 rfl ?_
  refine V_iload_n C dX4_begin_6 2 rfl ?_
  refine V_put (ci := 4) C (ok14 hj0 hi0) uX4 tyX4 tyX4_ok nmX4 rfl 1 (Nat.le_of_ble_eq_true rfl) rfl rfl f13 rfl (ty := .int) (by decide +kernel) rfl rfl (Nat.le_of_ble_eq_true rfl) dX4_begin_7 (fun τ2 hτ2 => ?_)
  replace hJ := hJ τ2 hτ2
  refine V_aload_n C dX4_begin_10 0 rfl ?_
  refine V_iload_n C dX4_begin_11 3 rfl ?_
  refine V_put (ci := 4) C (ok14 hj0 hi0) uX4 tyX4 tyX4_ok nmX4 rfl 2 (Nat.le_of_ble_eq_true rfl) rfl rfl f16 rfl (ty := .int) (by decide +kernel) rfl rfl (Nat.le_of_ble_eq_true rfl) dX4_begin_12 (fun τ3 hτ3 => ?_)
  replace hJ := hJ τ3 hτ3
  refine V_aload_n C dX4_begin_15 0 rfl ?_
  refine V_iconst (v := 0) C dX4_begin_16 ci_0 ?_
  refine V_put (ci := 4) C (ok14 hj0 hi0) uX4 tyX4 tyX4_ok nmX4 rfl 3 (Nat.le_of_ble_eq_true rfl) rfl rfl f19 rfl (ty := .int) (by decide +kernel) rfl rfl (Nat.le_of_ble_eq_true rfl) dX4_begin_17 (fun τ4 hτ4 => ?_)
  replace hJ := hJ τ4 hτ4
  refine V_aload_n C dX4_begin_20 0 rfl ?_
  refine V_iconst (v := 0) C dX4_begin_21 ci_0 ?_
  refine V_put (ci := 4) C (ok14 hj0 hi0) uX4 tyX4 tyX4_ok nmX4 rfl 4 (Nat.le_of_ble_eq_true rfl) rfl rfl f22 rfl (ty := .int) (by decide +kernel) rfl rfl (Nat.le_of_ble_eq_true rfl) dX4_begin_22 (fun τ5 hτ5 => ?_)
  replace hJ := hJ τ5 hτ5
  refine V_aload_n C dX4_begin_25 0 rfl ?_
  refine V_iconst (v := 0) C dX4_begin_26 ci_0 ?_
  refine V_put (ci := 4) C (ok14 hj0 hi0) uX4 tyX4 tyX4_ok nmX4 rfl 5 (Nat.le_of_ble_eq_true rfl) rfl rfl f25 rfl (ty := .int) (by decide +kernel) rfl rfl (Nat.le_of_ble_eq_true rfl) dX4_begin_27 (fun τ6 hτ6 => ?_)
  replace hJ := hJ τ6 hτ6
  refine V_aload_n C dX4_begin_30 0 rfl ?_
  refine V_iconst (v := 0) C dX4_begin_31 ci_0 ?_
  refine V_put (ci := 4) C (ok14 hj0 hi0) uX4 tyX4 tyX4_ok nmX4 rfl 6 (Nat.le_of_ble_eq_true rfl) rfl rfl f28 rfl (ty := .int) (by decide +kernel) rfl rfl (Nat.le_of_ble_eq_true rfl) dX4_begin_32 (fun τ7 hτ7 => ?_)
  replace hJ := hJ τ7 hτ7
  refine V_aload_n C dX4_begin_35 0 rfl ?_
  refine V_iconst (v := 0) C dX4_begin_36 ci_0 ?_
  refine V_put (ci := 4) C (ok14 hj0 hi0) uX4 tyX4 tyX4_ok nmX4 rfl 7 (Nat.le_of_ble_eq_true rfl) rfl rfl f31 rfl (ty := .int) (by decide +kernel) rfl rfl (Nat.le_of_ble_eq_true rfl) dX4_begin_37 (fun τ8 hτ8 => ?_)
  replace hJ := hJ τ8 hτ8
  refine V_aload_n C dX4_begin_40 0 rfl ?_
  refine V_iconst (v := 0) C dX4_begin_41 ci_0 ?_
  refine V_put (ci := 4) C (ok14 hj0 hi0) uX4 tyX4 tyX4_ok nmX4 rfl 8 (Nat.le_of_ble_eq_true rfl) rfl rfl f34 rfl (ty := .int) (by decide +kernel) rfl rfl (Nat.le_of_ble_eq_true rfl) dX4_begin_42 (fun τ9 hτ9 => ?_)
  replace hJ := hJ τ9 hτ9
  refine V_aload_n C dX4_begin_45 0 rfl ?_
  refine V_iconst (v := 0) C dX4_begin_46 ci_0 ?_
  refine V_put (ci := 4) C (ok14 hj0 hi0) uX4 tyX4 tyX4_ok nmX4 rfl 9 (Nat.le_of_ble_eq_true rfl) rfl rfl f37 rfl (ty := .int) (by decide +kernel) rfl rfl (Nat.le_of_ble_eq_true rfl) dX4_begin_47 (fun τ10 hτ10 => ?_)
  replace hJ := hJ τ10 hτ10
  refine V_aload_n C dX4_begin_50 0 rfl ?_
  refine V_iconst (v := 0) C dX4_begin_51 ci_0 ?_
  refine V_put (ci := 4) C (ok14 hj0 hi0) uX4 tyX4 tyX4_ok nmX4 rfl 10 (Nat.le_of_ble_eq_true rfl) rfl rfl f40 rfl (ty := .int) (by decide +kernel) rfl rfl (Nat.le_of_ble_eq_true rfl) dX4_begin_52 (fun τ11 hτ11 => ?_)
  replace hJ := hJ τ11 hτ11
  refine V_aload_n C dX4_begin_55 0 rfl ?_
  refine V_iconst (v := 0) C dX4_begin_56 ci_0 ?_
  refine V_put (ci := 4) C (ok14 hj0 hi0) uX4 tyX4 tyX4_ok nmX4 rfl 11 (Nat.le_of_ble_eq_true rfl) rfl rfl f43 rfl (ty := .boolean) (by decide +kernel) (isB_narrow (Or.inl rfl)) (isB_fits (Or.inl rfl)) (Nat.le_of_ble_eq_true rfl) dX4_begin_57 (fun τ12 hτ12 => ?_)
  replace hJ := hJ τ12 hτ12
  exact V_vret C hr hlocks dX4_begin_60 hJ
set_option maxHeartbeats 4000000 in
set_option maxRecDepth 100000 in
theorem M_X2_putUser (l : Launch) (D : va_G) (tc : Nat → ClassId) (ad : Oid → Nat) (A : Nat → Prop) (j0 : Nat) (hj0 : j0 < 4) (x1 : Int32) (x2 : Int32) (x3 : Int32) {σ : Mem} {Qr : Mem → Prop} (hJ : J_X2_putUser j0 x1 x2 x3 σ Qr) : Met l yX2_putUser wsX2_putUser ({ frames := 1, cells := 0, slots := 0, locals := 23 }) (va_Pc [.ref (ad (7, j0, 0)), .int x1, .int x2, .int x3] (WdI D vwCl (tysX tc) idsX ad (ceX tc ad) A σ)) (va_Qv (fun (u : Mem) => Qr u) (WdO D vwCl idsX ad (ceX tc ad) A) A) 0 0 A := by
  refine V_metv (cc := cX2_putUser) (nL := 5) (ret := none) (own := RX2) rfl (plainFor_of_name (by decide)) rfl rfl (Nat.le_of_ble_eq_true rfl) ?_
  intro p e s m below meth c C hr hlocks
  refine V_sub (lv' := [(0, .ref (ad (7, j0, 0))), (1, .int x1), (2, .int x2), (3, .int x3)]) [0, 1, 2, 3] rfl ?_
  have f64 : Cond.fieldLink RX2 64 (TX2 6).1 (TX2 6).2.1 (TX2 6).2.2.1 ∈ wsX2_putUser := List.mem_of_getElem? (i := 1) rfl
  have uX2 : ∀ w ∈ u_ws RX2 TX2 10, w ∈ wsX2_putUser := by decide +kernel
  have f23 : Cond.fieldLink RX2 23 (TX2 2).1 (TX2 2).2.1 (TX2 2).2.2.1 ∈ wsX2_putUser := List.mem_of_getElem? (i := 3) rfl
  have f19 : Cond.fieldLink RX2 19 (TX2 1).1 (TX2 1).2.1 (TX2 1).2.2.1 ∈ wsX2_putUser := List.mem_of_getElem? (i := 2) rfl
  have f81 : Cond.fieldLink RX2 81 (TX4 1).1 (TX4 1).2.1 (TX4 1).2.2.1 ∈ wsX2_putUser := List.mem_of_getElem? (i := 4) rfl
  have uX4 : ∀ w ∈ u_ws RX4 TX4 12, w ∈ wsX2_putUser := by decide +kernel
  have B62 : ∀ (b1 : Int32) (b2 : Int32) (b3 : Int32) (b4 : Int32) (τ : Mem), J_X2_putUser_b62 j0 x1 x2 x3  b1 b2 b3 b4 τ Qr → VV p l e (headSpec wsX2_putUser ({ frames := 1, cells := 0, slots := 0, locals := 23 })).room s m ([.ref (ad (7, j0, 0)), .int x1, .int x2, .int x3] : List Value).toArray below meth c D vwCl idsX ad (ceX tc ad) A (MQ below (va_Qv (fun (u : Mem) => Qr u) (WdO D vwCl idsX ad (ceX tc ad) A) A) ([.ref (ad (7, j0, 0)), .int x1, .int x2, .int x3] : List Value).toArray s 0 0 A) 5 (0, 0) 62 [(0, .ref (ad (7, j0, 0))), (1, .int b1), (2, .int b2), (3, .int b3), (4, .int b4)] [] τ := by
    intro b1 b2 b3 b4 τ hJ
    unfold J_X2_putUser_b62 at hJ
    refine V_aload_n C dX2_putUser_62 0 rfl ?_
    refine V_get (ci := 2) C (ok7 hj0) uX2 rfl 2 (Nat.le_of_ble_eq_true rfl) rfl rfl f23 dX2_putUser_63 ?_
    refine V_iload C dX2_putUser_66 4 rfl ?_
    refine V_aload_n C dX2_putUser_68 0 rfl ?_
    refine V_get (ci := 2) C (ok7 hj0) uX2 rfl 6 (Nat.le_of_ble_eq_true rfl) rfl rfl f64 dX2_putUser_69 ?_
    obtain ⟨hv6, hJ⟩ := hJ
    refine V_iast C (ok10 hj0) 0 rfl (fun _ => rfl) rfl hv6 dX2_putUser_72 (fun τ7 hτ7 => ?_)
    replace hJ := hJ τ7 hτ7
    refine V_aload_n C dX2_putUser_73 0 rfl ?_
    refine V_get (ci := 2) C (ok7 hj0) uX2 rfl 1 (Nat.le_of_ble_eq_true rfl) rfl rfl f19 dX2_putUser_74 ?_
    refine V_aload_n C dX2_putUser_77 0 rfl ?_
    refine V_get (ci := 2) C (ok7 hj0) uX2 rfl 6 (Nat.le_of_ble_eq_true rfl) rfl rfl f64 dX2_putUser_78 ?_
    obtain ⟨hv8, hJ⟩ := hJ
    refine V_aald (o' := (14, j0, ((τ7 (7, j0, 0) 6).toNatClampNeg))) C (ok9 hj0) 4 rfl rfl hv8 rfl dX2_putUser_81 ?_
    refine V_iload_n C dX2_putUser_82 1 rfl ?_
    refine V_iload_n C dX2_putUser_83 2 rfl ?_
    refine V_iload_n C dX2_putUser_84 3 rfl ?_
    refine V_cVv (st := []) (ci := 4) C (ok14 hj0 (vp_lt hv8)) ⟨Nat.zero_le _, Nat.zero_le _⟩ (M_X4_begin l D tc ad A j0 ((τ7 (7, j0, 0) 6).toNatClampNeg) hj0 (vp_lt hv8) b1 b2 b3 hJ) (cwV 3 C.1.2.2.2.2 gX2_putUser_X4_begin rfl rfl rfl (by decide +kernel) ⟨Nat.le_of_ble_eq_true rfl, Nat.le_of_ble_eq_true rfl⟩) rfl rfl rfl rfl (Nat.le_of_ble_eq_true rfl) dX2_putUser_85 (fun τ9 hJ => ?_)
    refine V_aload_n C dX2_putUser_88 0 rfl ?_
    refine V_dup C dX2_putUser_89 rfl ?_
    refine V_get (ci := 2) C (ok7 hj0) uX2 rfl 6 (Nat.le_of_ble_eq_true rfl) rfl rfl f64 dX2_putUser_90 ?_
    refine V_iconst (v := 1) C dX2_putUser_93 ci_1 ?_
    refine V_iadd C dX2_putUser_94 ?_
    refine V_put (ci := 2) C (ok7 hj0) uX2 tyX2 tyX2_ok nmX2 rfl 6 (Nat.le_of_ble_eq_true rfl) rfl rfl f64 rfl (ty := .int) (by decide +kernel) rfl rfl (Nat.le_of_ble_eq_true rfl) dX2_putUser_95 (fun τ10 hτ10 => ?_)
    replace hJ := hJ τ10 hτ10
    exact V_vret C hr hlocks dX2_putUser_98 hJ
  unfold J_X2_putUser at hJ
  refine V_aload_n C dX2_putUser_0 0 rfl ?_
  refine V_cVi (st := []) (ci := 2) C (ok7 hj0) ⟨Nat.zero_le _, Nat.zero_le _⟩ (M_X2_hasRoomForUser l D tc ad A j0 hj0 hJ) (cwV 0 C.1.2.2.2.2 gX2_putUser_X2_hasRoomForUser rfl rfl rfl (by decide +kernel) ⟨Nat.le_of_ble_eq_true rfl, Nat.le_of_ble_eq_true rfl⟩) rfl rfl rfl rfl (Nat.le_of_ble_eq_true rfl) dX2_putUser_1 (fun r1 τ1 hJ => ?_)
  obtain ⟨hJt, hJf⟩ := hJ
  refine V_if_ne C (tgt := 8) dX2_putUser_4 rfl (fun hc2 => ?_) (fun hc2 => ?_)
  · have hJ := hJt hc2; clear hJt hJf
    refine V_aload_n C dX2_putUser_8 0 rfl ?_
    refine V_get (ci := 2) C (ok7 hj0) uX2 rfl 6 (Nat.le_of_ble_eq_true rfl) rfl rfl f64 dX2_putUser_9 ?_
    refine V_topi (fun x4_3 hx4_3 => ?_)
    replace hJ := hJ x4_3 hx4_3
    refine V_istore (lv' := [(4, .int x4_3), (0, .ref (ad (7, j0, 0))), (1, .int x1), (2, .int x2), (3, .int x3)]) C dX2_putUser_12 (by decide) rfl ?_
    refine V_sub (lv' := [(0, .ref (ad (7, j0, 0))), (1, .int x1), (2, .int x2), (3, .int x3), (4, .int x4_3)]) [1, 2, 3, 4, 0] rfl ?_
    obtain ⟨I14, μ14, hI14, hst14⟩ := hJ
    have L14 : ∀ (n : Nat) (x4_4 : Int32) (τ4 : Mem), μ14 x4_4 τ4 < n → I14 x4_4 τ4 → VV p l e (headSpec wsX2_putUser ({ frames := 1, cells := 0, slots := 0, locals := 23 })).room s m ([.ref (ad (7, j0, 0)), .int x1, .int x2, .int x3] : List Value).toArray below meth c D vwCl idsX ad (ceX tc ad) A (MQ below (va_Qv (fun (u : Mem) => Qr u) (WdO D vwCl idsX ad (ceX tc ad) A) A) ([.ref (ad (7, j0, 0)), .int x1, .int x2, .int x3] : List Value).toArray s 0 0 A) 5 (0, 0) 14 [(0, .ref (ad (7, j0, 0))), (1, .int x1), (2, .int x2), (3, .int x3), (4, .int x4_4)] [] τ4 := by
      intro n
      induction n with
      | zero => intro x4_4 τ4 hμ _; exact absurd hμ (Nat.not_lt_zero _)
      | succ n ihn =>
        intro x4_4 τ4 hμ14 hJ
        have ih14 := ihn
        replace hJ := hst14 x4_4 τ4 hJ
        refine V_iload C dX2_putUser_14 4 rfl ?_
        obtain ⟨hJt, hJf⟩ := hJ
        refine V_if_le C (tgt := 62) dX2_putUser_16 rfl (fun hc5 => ?_) (fun hc5 => ?_)
        · have hJ := hJt hc5; clear hJt hJf
          exact B62 x1 x2 x3 x4_4 τ4 hJ
        · have hJ := hJf hc5; clear hJt hJf
          refine V_aload_n C dX2_putUser_19 0 rfl ?_
          refine V_get (ci := 2) C (ok7 hj0) uX2 rfl 1 (Nat.le_of_ble_eq_true rfl) rfl rfl f19 dX2_putUser_20 ?_
          refine V_aload_n C dX2_putUser_23 0 rfl ?_
          refine V_get (ci := 2) C (ok7 hj0) uX2 rfl 2 (Nat.le_of_ble_eq_true rfl) rfl rfl f23 dX2_putUser_24 ?_
          refine V_iload C dX2_putUser_27 4 rfl ?_
          refine V_iconst (v := 1) C dX2_putUser_29 ci_1 ?_
          refine V_isub C dX2_putUser_30 ?_
          obtain ⟨hv11, hJ⟩ := hJ
          refine V_iald C (ok10 hj0) 0 rfl rfl rfl hv11 dX2_putUser_31 ?_
          obtain ⟨hv12, hJ⟩ := hJ
          refine V_aald (o' := (14, j0, ((τ4 (10, j0, 0) ((x4_4 - 1).toNatClampNeg)).toNatClampNeg))) C (ok9 hj0) 4 rfl rfl hv12 rfl dX2_putUser_32 ?_
          refine V_get (ci := 4) C (ok14 hj0 (vp_lt hv12)) uX4 rfl 1 (Nat.le_of_ble_eq_true rfl) rfl rfl f81 dX2_putUser_33 ?_
          refine V_iload_n C dX2_putUser_36 2 rfl ?_
          obtain ⟨hJt, hJf⟩ := hJ
          refine V_icmp_le C (tgt := 62) dX2_putUser_37 rfl (fun hc13 => ?_) (fun hc13 => ?_)
          · have hJ := hJt hc13; clear hJt hJf
            exact B62 x1 x2 x3 x4_4 τ4 hJ
          · have hJ := hJf hc13; clear hJt hJf
            refine V_aload_n C dX2_putUser_40 0 rfl ?_
            refine V_get (ci := 2) C (ok7 hj0) uX2 rfl 2 (Nat.le_of_ble_eq_true rfl) rfl rfl f23 dX2_putUser_41 ?_
            refine V_iload C dX2_putUser_44 4 rfl ?_
            refine V_aload_n C dX2_putUser_46 0 rfl ?_
            refine V_get (ci := 2) C (ok7 hj0) uX2 rfl 2 (Nat.le_of_ble_eq_true rfl) rfl rfl f23 dX2_putUser_47 ?_
            refine V_iload C dX2_putUser_50 4 rfl ?_
            refine V_iconst (v := 1) C dX2_putUser_52 ci_1 ?_
            refine V_isub C dX2_putUser_53 ?_
            obtain ⟨hv14, hJ⟩ := hJ
            refine V_iald C (ok10 hj0) 0 rfl rfl rfl hv14 dX2_putUser_54 ?_
            obtain ⟨hv15, hJ⟩ := hJ
            refine V_iast C (ok10 hj0) 0 rfl (fun _ => rfl) rfl hv15 dX2_putUser_55 (fun τ16 hτ16 => ?_)
            replace hJ := hJ τ16 hτ16
            obtain ⟨x4_17, hx4_17⟩ : ∃ y : Int32, y = x4_4 + (-1) := ⟨_, rfl⟩
            replace hJ := hJ x4_17 hx4_17
            refine V_iinc (v := x4_17) (lv' := [(4, .int x4_17), (0, .ref (ad (7, j0, 0))), (1, .int x1), (2, .int x2), (3, .int x3)]) C dX2_putUser_56 4 rfl (by rw [hx4_17]; exact congrArg _ ci_m1) (by decide) rfl ?_
            refine V_goto C (tgt := 14) dX2_putUser_59 rfl ?_
            refine V_sub (lv' := [(0, .ref (ad (7, j0, 0))), (1, .int x1), (2, .int x2), (3, .int x3), (4, .int x4_17)]) [1, 2, 3, 4, 0] rfl ?_
            exact ih14 x4_17 τ16 (Nat.lt_of_lt_of_le hJ.2 (Nat.le_of_lt_succ hμ14)) hJ.1
    exact L14 _ x4_3 τ1 (Nat.lt_succ_self _) hI14
  · have hJ := hJf hc2; clear hJt hJf
    exact V_vret C hr hlocks dX2_putUser_7 hJ
set_option maxHeartbeats 4000000 in
set_option maxRecDepth 100000 in
theorem M_X5_addUser (l : Launch) (D : va_G) (tc : Nat → ClassId) (ad : Oid → Nat) (A : Nat → Prop) (x1 : Int32) (x2 : Int32) (x3 : Int32) {σ : Mem} {Qr : Int32 → Mem → Prop} (hJ : J_X5_addUser x1 x2 x3 σ Qr) : Met l yX5_addUser wsX5_addUser ({ frames := 2, cells := 0, slots := 0, locals := 47 }) (va_Pc [.ref (ad (0, 0, 0)), .int x1, .int x2, .int x3] (WdI D vwCl (tysX tc) idsX ad (ceX tc ad) A σ)) (va_Qi (fun (r : Int32) (u : Mem) => Qr r u) (WdO D vwCl idsX ad (ceX tc ad) A) A) 0 0 A := by
  refine V_meti (cc := cX5_addUser) (nL := 4) (ret := (some .int)) (own := RX5) rfl (plainFor_of_name (by decide)) rfl rfl (Nat.le_of_ble_eq_true rfl) ?_
  intro p e s m below meth c C hr hlocks
  refine V_sub (lv' := [(0, .ref (ad (0, 0, 0))), (1, .int x1), (2, .int x2), (3, .int x3)]) [0, 1, 2, 3] rfl ?_
  have f10 : Cond.fieldLink RX5 10 (TX5 0).1 (TX5 0).2.1 (TX5 0).2.2.1 ∈ wsX5_addUser := List.mem_of_getElem? (i := 1) rfl
  have uX5 : ∀ w ∈ u_ws RX5 TX5 6, w ∈ wsX5_addUser := by decide +kernel
  have f83 : Cond.fieldLink RX5 83 (TX2 6).1 (TX2 6).2.1 (TX2 6).2.2.1 ∈ wsX5_addUser := List.mem_of_getElem? (i := 2) rfl
  have uX2 : ∀ w ∈ u_ws RX2 TX2 10, w ∈ wsX5_addUser := by decide +kernel
  unfold J_X5_addUser at hJ
  refine V_aload_n C dX5_addUser_0 0 rfl ?_
  refine V_get (ci := 5) C okX_0_0 uX5 rfl 0 (Nat.le_of_ble_eq_true rfl) rfl rfl f10 dX5_addUser_1 ?_
  refine V_iload_n C dX5_addUser_4 1 rfl ?_
  refine V_cVi (st := []) (ci := 2) C (ok7 (by decide)) ⟨Nat.zero_le _, Nat.zero_le _⟩ (M_X2_hasDitch l D tc ad A 0 (by decide) x1 hJ) (cwV 1 C.1.2.2.2.2 gX5_addUser_X2_hasDitch rfl rfl rfl (by decide +kernel) ⟨Nat.le_of_ble_eq_true rfl, Nat.le_of_ble_eq_true rfl⟩) rfl rfl rfl rfl (Nat.le_of_ble_eq_true rfl) dX5_addUser_5 (fun r1 τ1 hJ => ?_)
  obtain ⟨hJt, hJf⟩ := hJ
  refine V_if_ne C (tgt := 14) dX5_addUser_8 rfl (fun hc2 => ?_) (fun hc2 => ?_)
  · have hJ := hJt hc2; clear hJt hJf
    refine V_iload_n C dX5_addUser_14 2 rfl ?_
    refine V_sipush (v := 1800) C dX5_addUser_15 cs_1800 ?_
    refine V_sipush (v := 2099) C dX5_addUser_18 cs_2099 ?_
    refine V_cSi (st := []) C ⟨Nat.zero_le _, Nat.zero_le _⟩ (M_X5_isWithin l D tc ad A x2 1800 2099 hJ) (va_cwS 3 C.1.2.2.2.2 gX5_addUser_X5_isWithin rfl rfl rfl (by decide +kernel) ⟨Nat.le_of_ble_eq_true rfl, Nat.le_of_ble_eq_true rfl⟩) rfl rfl (Nat.le_of_ble_eq_true rfl) dX5_addUser_21 (fun r3 τ3 hJ => ?_)
    obtain ⟨hJt, hJf⟩ := hJ
    refine V_if_eq C (tgt := 37) dX5_addUser_24 rfl (fun hc4 => ?_) (fun hc4 => ?_)
    · have hJ := hJt hc4; clear hJt hJf
      refine V_bipush (v := (-102)) C dX5_addUser_37 cb_m102 ?_
      exact V_iret C hr hlocks dX5_addUser_39 hJ
    · have hJ := hJf hc4; clear hJt hJf
      refine V_iload_n C dX5_addUser_27 3 rfl ?_
      refine V_iconst (v := 0) C dX5_addUser_28 ci_0 ?_
      refine V_bipush (v := 60) C dX5_addUser_29 cb_60 ?_
      refine V_cSi (st := []) C ⟨Nat.zero_le _, Nat.zero_le _⟩ (M_X5_isWithin l D tc ad A x3 0 60 hJ) (va_cwS 3 C.1.2.2.2.2 gX5_addUser_X5_isWithin rfl rfl rfl (by decide +kernel) ⟨Nat.le_of_ble_eq_true rfl, Nat.le_of_ble_eq_true rfl⟩) rfl rfl (Nat.le_of_ble_eq_true rfl) dX5_addUser_31 (fun r5 τ5 hJ => ?_)
      obtain ⟨hJt, hJf⟩ := hJ
      refine V_if_ne C (tgt := 40) dX5_addUser_34 rfl (fun hc6 => ?_) (fun hc6 => ?_)
      · have hJ := hJt hc6; clear hJt hJf
        refine V_aload_n C dX5_addUser_40 0 rfl ?_
        refine V_get (ci := 5) C okX_0_0 uX5 rfl 0 (Nat.le_of_ble_eq_true rfl) rfl rfl f10 dX5_addUser_41 ?_
        refine V_cVi (st := []) (ci := 2) C (ok7 (by decide)) ⟨Nat.zero_le _, Nat.zero_le _⟩ (M_X2_hasRoomForUser l D tc ad A 0 (by decide) hJ) (cwV 0 C.1.2.2.2.2 gX5_addUser_X2_hasRoomForUser rfl rfl rfl (by decide +kernel) ⟨Nat.le_of_ble_eq_true rfl, Nat.le_of_ble_eq_true rfl⟩) rfl rfl rfl rfl (Nat.le_of_ble_eq_true rfl) dX5_addUser_44 (fun r7 τ7 hJ => ?_)
        obtain ⟨hJt, hJf⟩ := hJ
        refine V_if_ne C (tgt := 53) dX5_addUser_47 rfl (fun hc8 => ?_) (fun hc8 => ?_)
        · have hJ := hJt hc8; clear hJt hJf
          refine V_aload_n C dX5_addUser_53 0 rfl ?_
          refine V_get (ci := 5) C okX_0_0 uX5 rfl 0 (Nat.le_of_ble_eq_true rfl) rfl rfl f10 dX5_addUser_54 ?_
          refine V_iload_n C dX5_addUser_57 1 rfl ?_
          refine V_iload_n C dX5_addUser_58 2 rfl ?_
          refine V_iload_n C dX5_addUser_59 3 rfl ?_
          refine V_cVv (st := []) (ci := 2) C (ok7 (by decide)) ⟨Nat.zero_le _, Nat.zero_le _⟩ (M_X2_putUser l D tc ad A 0 (by decide) x1 x2 x3 hJ) (cwV 3 C.1.2.2.2.2 gX5_addUser_X2_putUser rfl rfl rfl (by decide +kernel) ⟨Nat.le_of_ble_eq_true rfl, Nat.le_of_ble_eq_true rfl⟩) rfl rfl rfl rfl (Nat.le_of_ble_eq_true rfl) dX5_addUser_60 (fun τ9 hJ => ?_)
          refine V_aload_n C dX5_addUser_63 0 rfl ?_
          refine V_get (ci := 5) C okX_0_0 uX5 rfl 0 (Nat.le_of_ble_eq_true rfl) rfl rfl f10 dX5_addUser_64 ?_
          refine V_get (ci := 2) C (ok7 (by decide)) uX2 rfl 6 (Nat.le_of_ble_eq_true rfl) rfl rfl f83 dX5_addUser_67 ?_
          refine V_iconst (v := 1) C dX5_addUser_70 ci_1 ?_
          refine V_isub C dX5_addUser_71 ?_
          exact V_iret C hr hlocks dX5_addUser_72 hJ
        · have hJ := hJf hc8; clear hJt hJf
          refine V_bipush (v := (-104)) C dX5_addUser_50 cb_m104 ?_
          exact V_iret C hr hlocks dX5_addUser_52 hJ
      · have hJ := hJf hc6; clear hJt hJf
        refine V_bipush (v := (-102)) C dX5_addUser_37 cb_m102 ?_
        exact V_iret C hr hlocks dX5_addUser_39 hJ
  · have hJ := hJf hc2; clear hJt hJf
    refine V_bipush (v := (-101)) C dX5_addUser_11 cb_m101 ?_
    exact V_iret C hr hlocks dX5_addUser_13 hJ
set_option maxHeartbeats 4000000 in
set_option maxRecDepth 100000 in
theorem M_X2_hasUser (l : Launch) (D : va_G) (tc : Nat → ClassId) (ad : Oid → Nat) (A : Nat → Prop) (j0 : Nat) (hj0 : j0 < 4) (x1 : Int32) {σ : Mem} {Qr : Int32 → Mem → Prop} (hJ : J_X2_hasUser j0 x1 σ Qr) : Met l yX2_hasUser wsX2_hasUser ({ frames := 0, cells := 0, slots := 0, locals := 0 }) (va_Pc [.ref (ad (7, j0, 0)), .int x1] (WdI D vwCl (tysX tc) idsX ad (ceX tc ad) A σ)) (va_Qi (fun (r : Int32) (u : Mem) => Qr r u) (WdO D vwCl idsX ad (ceX tc ad) A) A) 0 0 A := by
  refine V_meti (cc := cX2_hasUser) (nL := 2) (ret := (some .boolean)) (own := RX2) rfl (plainFor_of_name (by decide)) rfl rfl (Nat.le_of_ble_eq_true rfl) ?_
  intro p e s m below meth c C hr hlocks
  refine V_sub (lv' := [(0, .ref (ad (7, j0, 0))), (1, .int x1)]) [0, 1] rfl ?_
  have f64 : Cond.fieldLink RX2 64 (TX2 6).1 (TX2 6).2.1 (TX2 6).2.2.1 ∈ wsX2_hasUser := List.mem_of_getElem? (i := 1) rfl
  have uX2 : ∀ w ∈ u_ws RX2 TX2 10, w ∈ wsX2_hasUser := by decide +kernel
  unfold J_X2_hasUser at hJ
  refine V_iload_n C dX2_hasUser_0 1 rfl ?_
  obtain ⟨hJt, hJf⟩ := hJ
  refine V_if_lt C (tgt := 16) dX2_hasUser_1 rfl (fun hc1 => ?_) (fun hc1 => ?_)
  · have hJ := hJt hc1; clear hJt hJf
    refine V_iconst (v := 0) C dX2_hasUser_16 ci_0 ?_
    exact V_zret C hr hlocks (Or.inl rfl) dX2_hasUser_17 hJ
  · have hJ := hJf hc1; clear hJt hJf
    refine V_iload_n C dX2_hasUser_4 1 rfl ?_
    refine V_aload_n C dX2_hasUser_5 0 rfl ?_
    refine V_get (ci := 2) C (ok7 hj0) uX2 rfl 6 (Nat.le_of_ble_eq_true rfl) rfl rfl f64 dX2_hasUser_6 ?_
    obtain ⟨hJt, hJf⟩ := hJ
    refine V_icmp_ge C (tgt := 16) dX2_hasUser_9 rfl (fun hc2 => ?_) (fun hc2 => ?_)
    · have hJ := hJt hc2; clear hJt hJf
      refine V_iconst (v := 0) C dX2_hasUser_16 ci_0 ?_
      exact V_zret C hr hlocks (Or.inl rfl) dX2_hasUser_17 hJ
    · have hJ := hJf hc2; clear hJt hJf
      refine V_iconst (v := 1) C dX2_hasUser_12 ci_1 ?_
      refine V_goto C (tgt := 17) dX2_hasUser_13 rfl ?_
      exact V_zret C hr hlocks (Or.inr rfl) dX2_hasUser_17 hJ
set_option maxHeartbeats 4000000 in
set_option maxRecDepth 100000 in
theorem M_X5_setField (l : Launch) (D : va_G) (tc : Nat → ClassId) (ad : Oid → Nat) (A : Nat → Prop) (x1 : Int32) (x2 : Int32) (x3 : Int32) (x4 : Int32) {σ : Mem} {Qr : Int32 → Mem → Prop} (hJ : J_X5_setField x1 x2 x3 x4 σ Qr) : Met l yX5_setField wsX5_setField ({ frames := 2, cells := 0, slots := 0, locals := 43 }) (va_Pc [.ref (ad (0, 0, 0)), .int x1, .int x2, .int x3, .int x4] (WdI D vwCl (tysX tc) idsX ad (ceX tc ad) A σ)) (va_Qi (fun (r : Int32) (u : Mem) => Qr r u) (WdO D vwCl idsX ad (ceX tc ad) A) A) 0 0 A := by
  refine V_meti (cc := cX5_setField) (nL := 7) (ret := (some .int)) (own := RX5) rfl (plainFor_of_name (by decide)) rfl rfl (Nat.le_of_ble_eq_true rfl) ?_
  intro p e s m below meth c C hr hlocks
  refine V_sub (lv' := [(0, .ref (ad (0, 0, 0))), (1, .int x1), (2, .int x2), (3, .int x3), (4, .int x4)]) [0, 1, 2, 3, 4] rfl ?_
  have f10 : Cond.fieldLink RX5 10 (TX5 0).1 (TX5 0).2.1 (TX5 0).2.2.1 ∈ wsX5_setField := List.mem_of_getElem? (i := 1) rfl
  have uX5 : ∀ w ∈ u_ws RX5 TX5 6, w ∈ wsX5_setField := by decide +kernel
  have f92 : Cond.fieldLink RX5 92 (TX2 1).1 (TX2 1).2.1 (TX2 1).2.2.1 ∈ wsX5_setField := List.mem_of_getElem? (i := 2) rfl
  have uX2 : ∀ w ∈ u_ws RX2 TX2 10, w ∈ wsX5_setField := by decide +kernel
  have f96 : Cond.fieldLink RX5 96 (TX4 3).1 (TX4 3).2.1 (TX4 3).2.2.1 ∈ wsX5_setField := List.mem_of_getElem? (i := 3) rfl
  have uX4 : ∀ w ∈ u_ws RX4 TX4 12, w ∈ wsX5_setField := by decide +kernel
  have f101 : Cond.fieldLink RX5 101 (TX4 4).1 (TX4 4).2.1 (TX4 4).2.2.1 ∈ wsX5_setField := List.mem_of_getElem? (i := 4) rfl
  have f104 : Cond.fieldLink RX5 104 (TX4 5).1 (TX4 5).2.1 (TX4 5).2.2.1 ∈ wsX5_setField := List.mem_of_getElem? (i := 5) rfl
  unfold J_X5_setField at hJ
  refine V_aload_n C dX5_setField_0 0 rfl ?_
  refine V_get (ci := 5) C okX_0_0 uX5 rfl 0 (Nat.le_of_ble_eq_true rfl) rfl rfl f10 dX5_setField_1 ?_
  refine V_iload_n C dX5_setField_4 1 rfl ?_
  refine V_cVi (st := []) (ci := 2) C (ok7 (by decide)) ⟨Nat.zero_le _, Nat.zero_le _⟩ (M_X2_hasUser l D tc ad A 0 (by decide) x1 hJ) (cwV 1 C.1.2.2.2.2 gX5_setField_X2_hasUser rfl rfl rfl (by decide +kernel) ⟨Nat.le_of_ble_eq_true rfl, Nat.le_of_ble_eq_true rfl⟩) rfl rfl rfl rfl (Nat.le_of_ble_eq_true rfl) dX5_setField_5 (fun r1 τ1 hJ => ?_)
  obtain ⟨hJt, hJf⟩ := hJ
  refine V_if_ne C (tgt := 14) dX5_setField_8 rfl (fun hc2 => ?_) (fun hc2 => ?_)
  · have hJ := hJt hc2; clear hJt hJf
    refine V_iload_n C dX5_setField_14 2 rfl ?_
    refine V_iconst (v := 0) C dX5_setField_15 ci_0 ?_
    refine V_bipush (v := 60) C dX5_setField_16 cb_60 ?_
    refine V_cSi (st := []) C ⟨Nat.zero_le _, Nat.zero_le _⟩ (M_X5_isWithin l D tc ad A x2 0 60 hJ) (va_cwS 3 C.1.2.2.2.2 gX5_setField_X5_isWithin rfl rfl rfl (by decide +kernel) ⟨Nat.le_of_ble_eq_true rfl, Nat.le_of_ble_eq_true rfl⟩) rfl rfl (Nat.le_of_ble_eq_true rfl) dX5_setField_18 (fun r3 τ3 hJ => ?_)
    obtain ⟨hJt, hJf⟩ := hJ
    refine V_if_eq C (tgt := 33) dX5_setField_21 rfl (fun hc4 => ?_) (fun hc4 => ?_)
    · have hJ := hJt hc4; clear hJt hJf
      refine V_bipush (v := (-102)) C dX5_setField_33 cb_m102 ?_
      exact V_iret C hr hlocks dX5_setField_35 hJ
    · have hJ := hJf hc4; clear hJt hJf
      refine V_iload_n C dX5_setField_24 3 rfl ?_
      refine V_iload C dX5_setField_25 4 rfl ?_
      refine V_cSi (st := []) C ⟨Nat.zero_le _, Nat.zero_le _⟩ (M_X5_areHours l D tc ad A x3 x4 hJ) (va_cwS 2 C.1.2.2.2.2 gX5_setField_X5_areHours rfl rfl rfl (by decide +kernel) ⟨Nat.le_of_ble_eq_true rfl, Nat.le_of_ble_eq_true rfl⟩) rfl rfl (Nat.le_of_ble_eq_true rfl) dX5_setField_27 (fun r5 τ5 hJ => ?_)
      obtain ⟨hJt, hJf⟩ := hJ
      refine V_if_ne C (tgt := 36) dX5_setField_30 rfl (fun hc6 => ?_) (fun hc6 => ?_)
      · have hJ := hJt hc6; clear hJt hJf
        refine V_aload_n C dX5_setField_36 0 rfl ?_
        refine V_get (ci := 5) C okX_0_0 uX5 rfl 0 (Nat.le_of_ble_eq_true rfl) rfl rfl f10 dX5_setField_37 ?_
        refine V_get (ci := 2) C (ok7 (by decide)) uX2 rfl 1 (Nat.le_of_ble_eq_true rfl) rfl rfl f92 dX5_setField_40 ?_
        refine V_iload_n C dX5_setField_43 1 rfl ?_
        obtain ⟨hv7, hJ⟩ := hJ
        refine V_aald (o' := (14, 0, x1.toNatClampNeg)) C (ok9 (by decide)) 4 rfl rfl hv7 rfl dX5_setField_44 ?_
        refine V_astore (lv' := [(5, .ref (ad (14, 0, x1.toNatClampNeg))), (0, .ref (ad (0, 0, 0))), (1, .int x1), (2, .int x2), (3, .int x3), (4, .int x4)]) C dX5_setField_45 (by decide) rfl ?_
        refine V_aload C dX5_setField_47 0 rfl ?_
        refine V_get (ci := 4) C (ok14 (by decide) (vp_lt hv7)) uX4 rfl 3 (Nat.le_of_ble_eq_true rfl) rfl rfl f96 dX5_setField_49 ?_
        refine V_topi (fun x6_8 hx6_8 => ?_)
        replace hJ := hJ x6_8 hx6_8
        refine V_istore (lv' := [(6, .int x6_8), (5, .ref (ad (14, 0, x1.toNatClampNeg))), (0, .ref (ad (0, 0, 0))), (1, .int x1), (2, .int x2), (3, .int x3), (4, .int x4)]) C dX5_setField_52 (by decide) rfl ?_
        refine V_aload C dX5_setField_54 1 rfl ?_
        refine V_iload_n C dX5_setField_56 4 rfl ?_
        refine V_put (ci := 4) C (ok14 (by decide) (vp_lt hv7)) uX4 tyX4 tyX4_ok nmX4 rfl 3 (Nat.le_of_ble_eq_true rfl) rfl rfl f96 rfl (ty := .int) (by decide +kernel) rfl rfl (Nat.le_of_ble_eq_true rfl) dX5_setField_57 (fun τ9 hτ9 => ?_)
        replace hJ := hJ τ9 hτ9
        refine V_aload C dX5_setField_60 1 rfl ?_
        refine V_iload_n C dX5_setField_62 5 rfl ?_
        refine V_put (ci := 4) C (ok14 (by decide) (vp_lt hv7)) uX4 tyX4 tyX4_ok nmX4 rfl 4 (Nat.le_of_ble_eq_true rfl) rfl rfl f101 rfl (ty := .int) (by decide +kernel) rfl rfl (Nat.le_of_ble_eq_true rfl) dX5_setField_63 (fun τ10 hτ10 => ?_)
        replace hJ := hJ τ10 hτ10
        refine V_aload C dX5_setField_66 1 rfl ?_
        refine V_iload C dX5_setField_68 6 rfl ?_
        refine V_put (ci := 4) C (ok14 (by decide) (vp_lt hv7)) uX4 tyX4 tyX4_ok nmX4 rfl 5 (Nat.le_of_ble_eq_true rfl) rfl rfl f104 rfl (ty := .int) (by decide +kernel) rfl rfl (Nat.le_of_ble_eq_true rfl) dX5_setField_70 (fun τ11 hτ11 => ?_)
        replace hJ := hJ τ11 hτ11
        refine V_iload C dX5_setField_73 0 rfl ?_
        exact V_iret C hr hlocks dX5_setField_75 hJ
      · have hJ := hJf hc6; clear hJt hJf
        refine V_bipush (v := (-102)) C dX5_setField_33 cb_m102 ?_
        exact V_iret C hr hlocks dX5_setField_35 hJ
  · have hJ := hJf hc2; clear hJt hJf
    refine V_bipush (v := (-101)) C dX5_setField_11 cb_m101 ?_
    exact V_iret C hr hlocks dX5_setField_13 hJ
set_option maxHeartbeats 4000000 in
set_option maxRecDepth 100000 in
theorem M_X5_setPond (l : Launch) (D : va_G) (tc : Nat → ClassId) (ad : Oid → Nat) (A : Nat → Prop) (x1 : Int32) (x2 : Int32) (x3 : Int32) {σ : Mem} {Qr : Int32 → Mem → Prop} (hJ : J_X5_setPond x1 x2 x3 σ Qr) : Met l yX5_setPond wsX5_setPond ({ frames := 1, cells := 0, slots := 0, locals := 22 }) (va_Pc [.ref (ad (0, 0, 0)), .int x1, .int x2, .int x3] (WdI D vwCl (tysX tc) idsX ad (ceX tc ad) A σ)) (va_Qi (fun (r : Int32) (u : Mem) => Qr r u) (WdO D vwCl idsX ad (ceX tc ad) A) A) 0 0 A := by
  refine V_meti (cc := cX5_setPond) (nL := 5) (ret := (some .int)) (own := RX5) rfl (plainFor_of_name (by decide)) rfl rfl (Nat.le_of_ble_eq_true rfl) ?_
  intro p e s m below meth c C hr hlocks
  refine V_sub (lv' := [(0, .ref (ad (0, 0, 0))), (1, .int x1), (2, .int x2), (3, .int x3)]) [0, 1, 2, 3] rfl ?_
  have f10 : Cond.fieldLink RX5 10 (TX5 0).1 (TX5 0).2.1 (TX5 0).2.2.1 ∈ wsX5_setPond := List.mem_of_getElem? (i := 1) rfl
  have uX5 : ∀ w ∈ u_ws RX5 TX5 6, w ∈ wsX5_setPond := by decide +kernel
  have f92 : Cond.fieldLink RX5 92 (TX2 1).1 (TX2 1).2.1 (TX2 1).2.2.1 ∈ wsX5_setPond := List.mem_of_getElem? (i := 2) rfl
  have uX2 : ∀ w ∈ u_ws RX2 TX2 10, w ∈ wsX5_setPond := by decide +kernel
  have f107 : Cond.fieldLink RX5 107 (TX4 6).1 (TX4 6).2.1 (TX4 6).2.2.1 ∈ wsX5_setPond := List.mem_of_getElem? (i := 3) rfl
  have uX4 : ∀ w ∈ u_ws RX4 TX4 12, w ∈ wsX5_setPond := by decide +kernel
  have f110 : Cond.fieldLink RX5 110 (TX4 8).1 (TX4 8).2.1 (TX4 8).2.2.1 ∈ wsX5_setPond := List.mem_of_getElem? (i := 4) rfl
  have f113 : Cond.fieldLink RX5 113 (TX4 7).1 (TX4 7).2.1 (TX4 7).2.2.1 ∈ wsX5_setPond := List.mem_of_getElem? (i := 5) rfl
  unfold J_X5_setPond at hJ
  refine V_aload_n C dX5_setPond_0 0 rfl ?_
  refine V_get (ci := 5) C okX_0_0 uX5 rfl 0 (Nat.le_of_ble_eq_true rfl) rfl rfl f10 dX5_setPond_1 ?_
  refine V_iload_n C dX5_setPond_4 1 rfl ?_
  refine V_cVi (st := []) (ci := 2) C (ok7 (by decide)) ⟨Nat.zero_le _, Nat.zero_le _⟩ (M_X2_hasUser l D tc ad A 0 (by decide) x1 hJ) (cwV 1 C.1.2.2.2.2 gX5_setPond_X2_hasUser rfl rfl rfl (by decide +kernel) ⟨Nat.le_of_ble_eq_true rfl, Nat.le_of_ble_eq_true rfl⟩) rfl rfl rfl rfl (Nat.le_of_ble_eq_true rfl) dX5_setPond_5 (fun r1 τ1 hJ => ?_)
  obtain ⟨hJt, hJf⟩ := hJ
  refine V_if_ne C (tgt := 14) dX5_setPond_8 rfl (fun hc2 => ?_) (fun hc2 => ?_)
  · have hJ := hJt hc2; clear hJt hJf
    refine V_iload_n C dX5_setPond_14 2 rfl ?_
    refine V_iconst (v := 0) C dX5_setPond_15 ci_0 ?_
    refine V_sipush (v := 500) C dX5_setPond_16 cs_500 ?_
    refine V_cSi (st := []) C ⟨Nat.zero_le _, Nat.zero_le _⟩ (M_X5_isWithin l D tc ad A x2 0 500 hJ) (va_cwS 3 C.1.2.2.2.2 gX5_setPond_X5_isWithin rfl rfl rfl (by decide +kernel) ⟨Nat.le_of_ble_eq_true rfl, Nat.le_of_ble_eq_true rfl⟩) rfl rfl (Nat.le_of_ble_eq_true rfl) dX5_setPond_19 (fun r3 τ3 hJ => ?_)
    obtain ⟨hJt, hJf⟩ := hJ
    refine V_if_eq C (tgt := 35) dX5_setPond_22 rfl (fun hc4 => ?_) (fun hc4 => ?_)
    · have hJ := hJt hc4; clear hJt hJf
      refine V_bipush (v := (-102)) C dX5_setPond_35 cb_m102 ?_
      exact V_iret C hr hlocks dX5_setPond_37 hJ
    · have hJ := hJf hc4; clear hJt hJf
      refine V_iload_n C dX5_setPond_25 3 rfl ?_
      refine V_iconst (v := 0) C dX5_setPond_26 ci_0 ?_
      refine V_bipush (v := 20) C dX5_setPond_27 cb_20 ?_
      refine V_cSi (st := []) C ⟨Nat.zero_le _, Nat.zero_le _⟩ (M_X5_isWithin l D tc ad A x3 0 20 hJ) (va_cwS 3 C.1.2.2.2.2 gX5_setPond_X5_isWithin rfl rfl rfl (by decide +kernel) ⟨Nat.le_of_ble_eq_true rfl, Nat.le_of_ble_eq_true rfl⟩) rfl rfl (Nat.le_of_ble_eq_true rfl) dX5_setPond_29 (fun r5 τ5 hJ => ?_)
      obtain ⟨hJt, hJf⟩ := hJ
      refine V_if_ne C (tgt := 38) dX5_setPond_32 rfl (fun hc6 => ?_) (fun hc6 => ?_)
      · have hJ := hJt hc6; clear hJt hJf
        refine V_aload_n C dX5_setPond_38 0 rfl ?_
        refine V_get (ci := 5) C okX_0_0 uX5 rfl 0 (Nat.le_of_ble_eq_true rfl) rfl rfl f10 dX5_setPond_39 ?_
        refine V_get (ci := 2) C (ok7 (by decide)) uX2 rfl 1 (Nat.le_of_ble_eq_true rfl) rfl rfl f92 dX5_setPond_42 ?_
        refine V_iload_n C dX5_setPond_45 1 rfl ?_
        obtain ⟨hv7, hJ⟩ := hJ
        refine V_aald (o' := (14, 0, x1.toNatClampNeg)) C (ok9 (by decide)) 4 rfl rfl hv7 rfl dX5_setPond_46 ?_
        refine V_astore (lv' := [(4, .ref (ad (14, 0, x1.toNatClampNeg))), (0, .ref (ad (0, 0, 0))), (1, .int x1), (2, .int x2), (3, .int x3)]) C dX5_setPond_47 (by decide) rfl ?_
        refine V_aload C dX5_setPond_49 0 rfl ?_
        refine V_iload_n C dX5_setPond_51 3 rfl ?_
        refine V_put (ci := 4) C (ok14 (by decide) (vp_lt hv7)) uX4 tyX4 tyX4_ok nmX4 rfl 6 (Nat.le_of_ble_eq_true rfl) rfl rfl f107 rfl (ty := .int) (by decide +kernel) rfl rfl (Nat.le_of_ble_eq_true rfl) dX5_setPond_52 (fun τ8 hτ8 => ?_)
        replace hJ := hJ τ8 hτ8
        refine V_aload C dX5_setPond_55 0 rfl ?_
        refine V_iload_n C dX5_setPond_57 4 rfl ?_
        refine V_put (ci := 4) C (ok14 (by decide) (vp_lt hv7)) uX4 tyX4 tyX4_ok nmX4 rfl 8 (Nat.le_of_ble_eq_true rfl) rfl rfl f110 rfl (ty := .int) (by decide +kernel) rfl rfl (Nat.le_of_ble_eq_true rfl) dX5_setPond_58 (fun τ9 hτ9 => ?_)
        replace hJ := hJ τ9 hτ9
        refine V_aload C dX5_setPond_61 0 rfl ?_
        refine V_aload C dX5_setPond_63 0 rfl ?_
        refine V_get (ci := 4) C (ok14 (by decide) (vp_lt hv7)) uX4 rfl 7 (Nat.le_of_ble_eq_true rfl) rfl rfl f113 dX5_setPond_65 ?_
        refine V_iload_n C dX5_setPond_68 3 rfl ?_
        refine V_mmin C ⟨Nat.zero_le _, Nat.zero_le _⟩ (List.mem_of_getElem? (i := 6) rfl) (List.mem_of_getElem? (i := 7) rfl) (List.mem_of_getElem? (i := 8) rfl) (List.mem_of_getElem? (i := 9) rfl) (Nat.le_of_ble_eq_true rfl) (Nat.le_of_ble_eq_true rfl) dX5_setPond_69 ?_
        refine V_put (ci := 4) C (ok14 (by decide) (vp_lt hv7)) uX4 tyX4 tyX4_ok nmX4 rfl 7 (Nat.le_of_ble_eq_true rfl) rfl rfl f113 rfl (ty := .int) (by decide +kernel) rfl rfl (Nat.le_of_ble_eq_true rfl) dX5_setPond_72 (fun τ10 hτ10 => ?_)
        replace hJ := hJ τ10 hτ10
        refine V_aload C dX5_setPond_75 0 rfl ?_
        refine V_get (ci := 4) C (ok14 (by decide) (vp_lt hv7)) uX4 rfl 7 (Nat.le_of_ble_eq_true rfl) rfl rfl f113 dX5_setPond_77 ?_
        exact V_iret C hr hlocks dX5_setPond_80 hJ
      · have hJ := hJf hc6; clear hJt hJf
        refine V_bipush (v := (-102)) C dX5_setPond_35 cb_m102 ?_
        exact V_iret C hr hlocks dX5_setPond_37 hJ
  · have hJ := hJf hc2; clear hJt hJf
    refine V_bipush (v := (-101)) C dX5_setPond_11 cb_m101 ?_
    exact V_iret C hr hlocks dX5_setPond_13 hJ
set_option maxHeartbeats 4000000 in
set_option maxRecDepth 100000 in
theorem M_X5_ditches (l : Launch) (D : va_G) (tc : Nat → ClassId) (ad : Oid → Nat) (A : Nat → Prop) {σ : Mem} {Qr : Int32 → Mem → Prop} (hJ : J_X5_ditches σ Qr) : Met l yX5_ditches wsX5_ditches ({ frames := 0, cells := 0, slots := 0, locals := 0 }) (va_Pc [.ref (ad (0, 0, 0))] (WdI D vwCl (tysX tc) idsX ad (ceX tc ad) A σ)) (va_Qi (fun (r : Int32) (u : Mem) => Qr r u) (WdO D vwCl idsX ad (ceX tc ad) A) A) 0 0 A := by
  refine V_meti (cc := cX5_ditches) (nL := 1) (ret := (some .int)) (own := RX5) rfl (plainFor_of_name (by decide)) rfl rfl (Nat.le_of_ble_eq_true rfl) ?_
  intro p e s m below meth c C hr hlocks
  refine V_sub (lv' := [(0, .ref (ad (0, 0, 0)))]) [0] rfl ?_
  have f10 : Cond.fieldLink RX5 10 (TX5 0).1 (TX5 0).2.1 (TX5 0).2.2.1 ∈ wsX5_ditches := List.mem_of_getElem? (i := 1) rfl
  have uX5 : ∀ w ∈ u_ws RX5 TX5 6, w ∈ wsX5_ditches := by decide +kernel
  have f57 : Cond.fieldLink RX5 57 (TX2 5).1 (TX2 5).2.1 (TX2 5).2.2.1 ∈ wsX5_ditches := List.mem_of_getElem? (i := 2) rfl
  have uX2 : ∀ w ∈ u_ws RX2 TX2 10, w ∈ wsX5_ditches := by decide +kernel
  unfold J_X5_ditches at hJ
  refine V_aload_n C dX5_ditches_0 0 rfl ?_
  refine V_get (ci := 5) C okX_0_0 uX5 rfl 0 (Nat.le_of_ble_eq_true rfl) rfl rfl f10 dX5_ditches_1 ?_
  refine V_get (ci := 2) C (ok7 (by decide)) uX2 rfl 5 (Nat.le_of_ble_eq_true rfl) rfl rfl f57 dX5_ditches_4 ?_
  exact V_iret C hr hlocks dX5_ditches_7 hJ
set_option maxHeartbeats 4000000 in
set_option maxRecDepth 100000 in
theorem M_X5_users (l : Launch) (D : va_G) (tc : Nat → ClassId) (ad : Oid → Nat) (A : Nat → Prop) {σ : Mem} {Qr : Int32 → Mem → Prop} (hJ : J_X5_users σ Qr) : Met l yX5_users wsX5_users ({ frames := 0, cells := 0, slots := 0, locals := 0 }) (va_Pc [.ref (ad (0, 0, 0))] (WdI D vwCl (tysX tc) idsX ad (ceX tc ad) A σ)) (va_Qi (fun (r : Int32) (u : Mem) => Qr r u) (WdO D vwCl idsX ad (ceX tc ad) A) A) 0 0 A := by
  refine V_meti (cc := cX5_users) (nL := 1) (ret := (some .int)) (own := RX5) rfl (plainFor_of_name (by decide)) rfl rfl (Nat.le_of_ble_eq_true rfl) ?_
  intro p e s m below meth c C hr hlocks
  refine V_sub (lv' := [(0, .ref (ad (0, 0, 0)))]) [0] rfl ?_
  have f10 : Cond.fieldLink RX5 10 (TX5 0).1 (TX5 0).2.1 (TX5 0).2.2.1 ∈ wsX5_users := List.mem_of_getElem? (i := 1) rfl
  have uX5 : ∀ w ∈ u_ws RX5 TX5 6, w ∈ wsX5_users := by decide +kernel
  have f83 : Cond.fieldLink RX5 83 (TX2 6).1 (TX2 6).2.1 (TX2 6).2.2.1 ∈ wsX5_users := List.mem_of_getElem? (i := 2) rfl
  have uX2 : ∀ w ∈ u_ws RX2 TX2 10, w ∈ wsX5_users := by decide +kernel
  unfold J_X5_users at hJ
  refine V_aload_n C dX5_users_0 0 rfl ?_
  refine V_get (ci := 5) C okX_0_0 uX5 rfl 0 (Nat.le_of_ble_eq_true rfl) rfl rfl f10 dX5_users_1 ?_
  refine V_get (ci := 2) C (ok7 (by decide)) uX2 rfl 6 (Nat.le_of_ble_eq_true rfl) rfl rfl f83 dX5_users_4 ?_
  exact V_iret C hr hlocks dX5_users_7 hJ
set_option maxHeartbeats 4000000 in
set_option maxRecDepth 100000 in
theorem M_X5_userByAge (l : Launch) (D : va_G) (tc : Nat → ClassId) (ad : Oid → Nat) (A : Nat → Prop) (x1 : Int32) {σ : Mem} {Qr : Int32 → Mem → Prop} (hJ : J_X5_userByAge x1 σ Qr) : Met l yX5_userByAge wsX5_userByAge ({ frames := 1, cells := 0, slots := 0, locals := 21 }) (va_Pc [.ref (ad (0, 0, 0)), .int x1] (WdI D vwCl (tysX tc) idsX ad (ceX tc ad) A σ)) (va_Qi (fun (r : Int32) (u : Mem) => Qr r u) (WdO D vwCl idsX ad (ceX tc ad) A) A) 0 0 A := by
  refine V_meti (cc := cX5_userByAge) (nL := 2) (ret := (some .int)) (own := RX5) rfl (plainFor_of_name (by decide)) rfl rfl (Nat.le_of_ble_eq_true rfl) ?_
  intro p e s m below meth c C hr hlocks
  refine V_sub (lv' := [(0, .ref (ad (0, 0, 0))), (1, .int x1)]) [0, 1] rfl ?_
  have f10 : Cond.fieldLink RX5 10 (TX5 0).1 (TX5 0).2.1 (TX5 0).2.2.1 ∈ wsX5_userByAge := List.mem_of_getElem? (i := 1) rfl
  have uX5 : ∀ w ∈ u_ws RX5 TX5 6, w ∈ wsX5_userByAge := by decide +kernel
  have f138 : Cond.fieldLink RX5 138 (TX2 2).1 (TX2 2).2.1 (TX2 2).2.2.1 ∈ wsX5_userByAge := List.mem_of_getElem? (i := 2) rfl
  have uX2 : ∀ w ∈ u_ws RX2 TX2 10, w ∈ wsX5_userByAge := by decide +kernel
  unfold J_X5_userByAge at hJ
  refine V_aload_n C dX5_userByAge_0 0 rfl ?_
  refine V_get (ci := 5) C okX_0_0 uX5 rfl 0 (Nat.le_of_ble_eq_true rfl) rfl rfl f10 dX5_userByAge_1 ?_
  refine V_iload_n C dX5_userByAge_4 1 rfl ?_
  refine V_cVi (st := []) (ci := 2) C (ok7 (by decide)) ⟨Nat.zero_le _, Nat.zero_le _⟩ (M_X2_hasUser l D tc ad A 0 (by decide) x1 hJ) (cwV 1 C.1.2.2.2.2 gX5_userByAge_X2_hasUser rfl rfl rfl (by decide +kernel) ⟨Nat.le_of_ble_eq_true rfl, Nat.le_of_ble_eq_true rfl⟩) rfl rfl rfl rfl (Nat.le_of_ble_eq_true rfl) dX5_userByAge_5 (fun r1 τ1 hJ => ?_)
  obtain ⟨hJt, hJf⟩ := hJ
  refine V_if_eq C (tgt := 23) dX5_userByAge_8 rfl (fun hc2 => ?_) (fun hc2 => ?_)
  · have hJ := hJt hc2; clear hJt hJf
    refine V_bipush (v := (-101)) C dX5_userByAge_23 cb_m101 ?_
    exact V_iret C hr hlocks dX5_userByAge_25 hJ
  · have hJ := hJf hc2; clear hJt hJf
    refine V_aload_n C dX5_userByAge_11 0 rfl ?_
    refine V_get (ci := 5) C okX_0_0 uX5 rfl 0 (Nat.le_of_ble_eq_true rfl) rfl rfl f10 dX5_userByAge_12 ?_
    refine V_get (ci := 2) C (ok7 (by decide)) uX2 rfl 2 (Nat.le_of_ble_eq_true rfl) rfl rfl f138 dX5_userByAge_15 ?_
    refine V_iload_n C dX5_userByAge_18 1 rfl ?_
    obtain ⟨hv3, hJ⟩ := hJ
    refine V_iald C (ok10 (by decide)) 0 rfl rfl rfl hv3 dX5_userByAge_19 ?_
    refine V_goto C (tgt := 25) dX5_userByAge_20 rfl ?_
    exact V_iret C hr hlocks dX5_userByAge_25 hJ
set_option maxHeartbeats 4000000 in
set_option maxRecDepth 100000 in
theorem M_X2_hourOfDay (l : Launch) (D : va_G) (tc : Nat → ClassId) (ad : Oid → Nat) (A : Nat → Prop) (j0 : Nat) (hj0 : j0 < 4) {σ : Mem} {Qr : Int32 → Mem → Prop} (hJ : J_X2_hourOfDay j0 σ Qr) : Met l yX2_hourOfDay wsX2_hourOfDay ({ frames := 1, cells := 0, slots := 0, locals := 22 }) (va_Pc [.ref (ad (7, j0, 0))] (WdI D vwCl (tysX tc) idsX ad (ceX tc ad) A σ)) (va_Qi (fun (r : Int32) (u : Mem) => Qr r u) (WdO D vwCl idsX ad (ceX tc ad) A) A) 0 0 A := by
  refine V_meti (cc := cX2_hourOfDay) (nL := 1) (ret := (some .int)) (own := RX2) rfl (plainFor_of_name (by decide)) rfl rfl (Nat.le_of_ble_eq_true rfl) ?_
  intro p e s m below meth c C hr hlocks
  refine V_sub (lv' := [(0, .ref (ad (7, j0, 0)))]) [0] rfl ?_
  have f71 : Cond.fieldLink RX2 71 (TX2 9).1 (TX2 9).2.1 (TX2 9).2.2.1 ∈ wsX2_hourOfDay := List.mem_of_getElem? (i := 1) rfl
  have uX2 : ∀ w ∈ u_ws RX2 TX2 10, w ∈ wsX2_hourOfDay := by decide +kernel
  unfold J_X2_hourOfDay at hJ
  refine V_aload_n C dX2_hourOfDay_0 0 rfl ?_
  refine V_get (ci := 2) C (ok7 hj0) uX2 rfl 9 (Nat.le_of_ble_eq_true rfl) rfl rfl f71 dX2_hourOfDay_1 ?_
  refine V_bipush (v := 24) C dX2_hourOfDay_4 cb_24 ?_
  refine V_cSi (st := []) C ⟨Nat.zero_le _, Nat.zero_le _⟩ (M_J9_floorMod_7cf53 l D tc ad A (σ (7, j0, 0) 9) 24 hJ) (va_cwS 2 C.1.2.2.2.2 gX2_hourOfDay_J9_floorMod_7cf53 rfl rfl rfl (by decide +kernel) ⟨Nat.le_of_ble_eq_true rfl, Nat.le_of_ble_eq_true rfl⟩) rfl rfl (Nat.le_of_ble_eq_true rfl) dX2_hourOfDay_6 (fun r1 τ1 hJ => ?_)
  exact V_iret C hr hlocks dX2_hourOfDay_9 hJ
set_option maxHeartbeats 4000000 in
set_option maxRecDepth 100000 in
theorem M_X2_supplyNow (l : Launch) (D : va_G) (tc : Nat → ClassId) (ad : Oid → Nat) (A : Nat → Prop) (j0 : Nat) (hj0 : j0 < 4) {σ : Mem} {Qr : Int32 → Mem → Prop} (hJ : J_X2_supplyNow j0 σ Qr) : Met l yX2_supplyNow wsX2_supplyNow ({ frames := 2, cells := 0, slots := 0, locals := 42 }) (va_Pc [.ref (ad (7, j0, 0))] (WdI D vwCl (tysX tc) idsX ad (ceX tc ad) A σ)) (va_Qi (fun (r : Int32) (u : Mem) => Qr r u) (WdO D vwCl idsX ad (ceX tc ad) A) A) 0 0 A := by
  refine V_meti (cc := cX2_supplyNow) (nL := 1) (ret := (some .int)) (own := RX2) rfl (plainFor_of_name (by decide)) rfl rfl (Nat.le_of_ble_eq_true rfl) ?_
  intro p e s m below meth c C hr hlocks
  refine V_sub (lv' := [(0, .ref (ad (7, j0, 0)))]) [0] rfl ?_
  have f27 : Cond.fieldLink RX2 27 (TX2 3).1 (TX2 3).2.1 (TX2 3).2.2.1 ∈ wsX2_supplyNow := List.mem_of_getElem? (i := 1) rfl
  have uX2 : ∀ w ∈ u_ws RX2 TX2 10, w ∈ wsX2_supplyNow := by decide +kernel
  unfold J_X2_supplyNow at hJ
  refine V_aload_n C dX2_supplyNow_0 0 rfl ?_
  refine V_get (ci := 2) C (ok7 hj0) uX2 rfl 3 (Nat.le_of_ble_eq_true rfl) rfl rfl f27 dX2_supplyNow_1 ?_
  refine V_aload_n C dX2_supplyNow_4 0 rfl ?_
  refine V_cVi (st := [.ref (ad (11, j0, 0))]) (ci := 2) C (ok7 hj0) ⟨Nat.zero_le _, Nat.zero_le _⟩ (M_X2_hourOfDay l D tc ad A j0 hj0 hJ) (cwV 0 C.1.2.2.2.2 gX2_supplyNow_X2_hourOfDay rfl rfl rfl (by decide +kernel) ⟨Nat.le_of_ble_eq_true rfl, Nat.le_of_ble_eq_true rfl⟩) rfl rfl rfl rfl (Nat.le_of_ble_eq_true rfl) dX2_supplyNow_5 (fun r1 τ1 hJ => ?_)
  obtain ⟨hv2, hJ⟩ := hJ
  refine V_iald C (ok11 hj0) 0 rfl rfl rfl hv2 dX2_supplyNow_8 ?_
  exact V_iret C hr hlocks dX2_supplyNow_9 hJ
set_option maxHeartbeats 4000000 in
set_option maxRecDepth 100000 in
theorem M_X2_userInTurn (l : Launch) (D : va_G) (tc : Nat → ClassId) (ad : Oid → Nat) (A : Nat → Prop) (j0 : Nat) (hj0 : j0 < 4) {σ : Mem} {Qr : Int32 → Mem → Prop} (hJ : J_X2_userInTurn j0 σ Qr) : Met l yX2_userInTurn wsX2_userInTurn ({ frames := 1, cells := 0, slots := 0, locals := 22 }) (va_Pc [.ref (ad (7, j0, 0))] (WdI D vwCl (tysX tc) idsX ad (ceX tc ad) A σ)) (va_Qi (fun (r : Int32) (u : Mem) => Qr r u) (WdO D vwCl idsX ad (ceX tc ad) A) A) 0 0 A := by
  refine V_meti (cc := cX2_userInTurn) (nL := 4) (ret := (some .int)) (own := RX2) rfl (plainFor_of_name (by decide)) rfl rfl (Nat.le_of_ble_eq_true rfl) ?_
  intro p e s m below meth c C hr hlocks
  refine V_sub (lv' := [(0, .ref (ad (7, j0, 0)))]) [0] rfl ?_
  have f64 : Cond.fieldLink RX2 64 (TX2 6).1 (TX2 6).2.1 (TX2 6).2.2.1 ∈ wsX2_userInTurn := List.mem_of_getElem? (i := 1) rfl
  have uX2 : ∀ w ∈ u_ws RX2 TX2 10, w ∈ wsX2_userInTurn := by decide +kernel
  have f33 : Cond.fieldLink RX2 33 (TX2 7).1 (TX2 7).2.1 (TX2 7).2.2.1 ∈ wsX2_userInTurn := List.mem_of_getElem? (i := 4) rfl
  have f71 : Cond.fieldLink RX2 71 (TX2 9).1 (TX2 9).2.1 (TX2 9).2.2.1 ∈ wsX2_userInTurn := List.mem_of_getElem? (i := 5) rfl
  have f19 : Cond.fieldLink RX2 19 (TX2 1).1 (TX2 1).2.1 (TX2 1).2.2.1 ∈ wsX2_userInTurn := List.mem_of_getElem? (i := 2) rfl
  have f98 : Cond.fieldLink RX2 98 (TX4 9).1 (TX4 9).2.1 (TX4 9).2.2.1 ∈ wsX2_userInTurn := List.mem_of_getElem? (i := 3) rfl
  have uX4 : ∀ w ∈ u_ws RX4 TX4 12, w ∈ wsX2_userInTurn := by decide +kernel
  unfold J_X2_userInTurn at hJ
  refine V_iconst (v := 0) C dX2_userInTurn_0 ci_0 ?_
  refine V_istore_n (lv' := [(1, .int 0), (0, .ref (ad (7, j0, 0)))]) C dX2_userInTurn_1 (by decide) rfl ?_
  refine V_iconst (v := 0) C dX2_userInTurn_2 ci_0 ?_
  refine V_istore_n (lv' := [(2, .int 0), (1, .int 0), (0, .ref (ad (7, j0, 0)))]) C dX2_userInTurn_3 (by decide) rfl ?_
  refine V_sub (lv' := [(0, .ref (ad (7, j0, 0))), (1, .int 0), (2, .int 0)]) [2, 1, 0] rfl ?_
  obtain ⟨I4, μ4, hI4, hst4⟩ := hJ
  have L4 : ∀ (n : Nat) (x1_1 : Int32) (x2_1 : Int32), μ4 x1_1 x2_1 < n → I4 x1_1 x2_1 → VV p l e (headSpec wsX2_userInTurn ({ frames := 1, cells := 0, slots := 0, locals := 22 })).room s m ([.ref (ad (7, j0, 0))] : List Value).toArray below meth c D vwCl idsX ad (ceX tc ad) A (MQ below (va_Qi (fun (r : Int32) (u : Mem) => Qr r u) (WdO D vwCl idsX ad (ceX tc ad) A) A) ([.ref (ad (7, j0, 0))] : List Value).toArray s 0 0 A) 4 (0, 0) 4 [(0, .ref (ad (7, j0, 0))), (1, .int x1_1), (2, .int x2_1)] [] σ := by
    intro n
    induction n with
    | zero => intro x1_1 x2_1 hμ _; exact absurd hμ (Nat.not_lt_zero _)
    | succ n ihn =>
      intro x1_1 x2_1 hμ4 hJ
      have ih4 := ihn
      replace hJ := hst4 x1_1 x2_1 hJ
      refine V_iload_n C dX2_userInTurn_4 2 rfl ?_
      refine V_aload_n C dX2_userInTurn_5 0 rfl ?_
      refine V_get (ci := 2) C (ok7 hj0) uX2 rfl 6 (Nat.le_of_ble_eq_true rfl) rfl rfl f64 dX2_userInTurn_6 ?_
      obtain ⟨hJt, hJf⟩ := hJ
      refine V_icmp_ge C (tgt := 30) dX2_userInTurn_9 rfl (fun hc2 => ?_) (fun hc2 => ?_)
      · have hJ := hJt hc2; clear hJt hJf
        refine V_aload_n C dX2_userInTurn_30 0 rfl ?_
        refine V_get (ci := 2) C (ok7 hj0) uX2 rfl 7 (Nat.le_of_ble_eq_true rfl) rfl rfl f33 dX2_userInTurn_31 ?_
        refine V_iconst (v := 1) C dX2_userInTurn_34 ci_1 ?_
        obtain ⟨hJt, hJf⟩ := hJ
        refine V_icmp_ne C (tgt := 42) dX2_userInTurn_35 rfl (fun hc3 => ?_) (fun hc3 => ?_)
        · have hJ := hJt hc3; clear hJt hJf
          refine V_bipush (v := (-105)) C dX2_userInTurn_42 cb_m105 ?_
          exact V_iret C hr hlocks dX2_userInTurn_44 hJ
        · have hJ := hJf hc3; clear hJt hJf
          refine V_iload_n C dX2_userInTurn_38 1 rfl ?_
          obtain ⟨hJt, hJf⟩ := hJ
          refine V_if_gt C (tgt := 45) dX2_userInTurn_39 rfl (fun hc4 => ?_) (fun hc4 => ?_)
          · have hJ := hJt hc4; clear hJt hJf
            refine V_aload_n C dX2_userInTurn_45 0 rfl ?_
            refine V_get (ci := 2) C (ok7 hj0) uX2 rfl 9 (Nat.le_of_ble_eq_true rfl) rfl rfl f71 dX2_userInTurn_46 ?_
            refine V_iload_n C dX2_userInTurn_49 1 rfl ?_
            refine V_cSi (st := []) C ⟨Nat.zero_le _, Nat.zero_le _⟩ (M_J9_floorMod_7cf53 l D tc ad A (σ (7, j0, 0) 9) x1_1 hJ) (va_cwS 2 C.1.2.2.2.2 gX2_userInTurn_J9_floorMod_7cf53 rfl rfl rfl (by decide +kernel) ⟨Nat.le_of_ble_eq_true rfl, Nat.le_of_ble_eq_true rfl⟩) rfl rfl (Nat.le_of_ble_eq_true rfl) dX2_userInTurn_50 (fun r5 τ5 hJ => ?_)
            refine V_istore_n (lv' := [(2, .int r5), (0, .ref (ad (7, j0, 0))), (1, .int x1_1)]) C dX2_userInTurn_53 (by decide) rfl ?_
            refine V_iconst (v := 0) C dX2_userInTurn_54 ci_0 ?_
            refine V_istore_n (lv' := [(3, .int 0), (2, .int r5), (0, .ref (ad (7, j0, 0))), (1, .int x1_1)]) C dX2_userInTurn_55 (by decide) rfl ?_
            refine V_sub (lv' := [(0, .ref (ad (7, j0, 0))), (2, .int r5), (3, .int 0)]) [2, 1, 0] rfl ?_
            obtain ⟨I56, μ56, hI56, hst56⟩ := hJ
            have L56 : ∀ (n : Nat) (x2_6 : Int32) (x3_6 : Int32), μ56 x2_6 x3_6 < n → I56 x2_6 x3_6 → VV p l e (headSpec wsX2_userInTurn ({ frames := 1, cells := 0, slots := 0, locals := 22 })).room s m ([.ref (ad (7, j0, 0))] : List Value).toArray below meth c D vwCl idsX ad (ceX tc ad) A (MQ below (va_Qi (fun (r : Int32) (u : Mem) => Qr r u) (WdO D vwCl idsX ad (ceX tc ad) A) A) ([.ref (ad (7, j0, 0))] : List Value).toArray s 0 0 A) 4 (0, 0) 56 [(0, .ref (ad (7, j0, 0))), (2, .int x2_6), (3, .int x3_6)] [] τ5 := by
              intro n
              induction n with
              | zero => intro x2_6 x3_6 hμ _; exact absurd hμ (Nat.not_lt_zero _)
              | succ n ihn =>
                intro x2_6 x3_6 hμ56 hJ
                have ih56 := ihn
                replace hJ := hst56 x2_6 x3_6 hJ
                refine V_iload_n C dX2_userInTurn_56 2 rfl ?_
                refine V_aload_n C dX2_userInTurn_57 0 rfl ?_
                refine V_get (ci := 2) C (ok7 hj0) uX2 rfl 6 (Nat.le_of_ble_eq_true rfl) rfl rfl f64 dX2_userInTurn_58 ?_
                obtain ⟨hJt, hJf⟩ := hJ
                refine V_icmp_ge C (tgt := 97) dX2_userInTurn_61 rfl (fun hc7 => ?_) (fun hc7 => ?_)
                · have hJ := hJt hc7; clear hJt hJf
                  refine V_bipush (v := (-105)) C dX2_userInTurn_97 cb_m105 ?_
                  exact V_iret C hr hlocks dX2_userInTurn_99 hJ
                · have hJ := hJf hc7; clear hJt hJf
                  refine V_iload_n C dX2_userInTurn_64 1 rfl ?_
                  refine V_aload_n C dX2_userInTurn_65 0 rfl ?_
                  refine V_get (ci := 2) C (ok7 hj0) uX2 rfl 1 (Nat.le_of_ble_eq_true rfl) rfl rfl f19 dX2_userInTurn_66 ?_
                  refine V_iload_n C dX2_userInTurn_69 2 rfl ?_
                  obtain ⟨hv8, hJ⟩ := hJ
                  refine V_aald (o' := (14, j0, x3_6.toNatClampNeg)) C (ok9 hj0) 4 rfl rfl hv8 rfl dX2_userInTurn_70 ?_
                  refine V_get (ci := 4) C (ok14 hj0 (vp_lt hv8)) uX4 rfl 9 (Nat.le_of_ble_eq_true rfl) rfl rfl f98 dX2_userInTurn_71 ?_
                  obtain ⟨hJt, hJf⟩ := hJ
                  refine V_icmp_ge C (tgt := 79) dX2_userInTurn_74 rfl (fun hc9 => ?_) (fun hc9 => ?_)
                  · have hJ := hJt hc9; clear hJt hJf
                    refine V_iload_n C dX2_userInTurn_79 1 rfl ?_
                    refine V_aload_n C dX2_userInTurn_80 0 rfl ?_
                    refine V_get (ci := 2) C (ok7 hj0) uX2 rfl 1 (Nat.le_of_ble_eq_true rfl) rfl rfl f19 dX2_userInTurn_81 ?_
                    refine V_iload_n C dX2_userInTurn_84 2 rfl ?_
                    obtain ⟨hv10, hJ⟩ := hJ
                    refine V_aald (o' := (14, j0, x3_6.toNatClampNeg)) C (ok9 hj0) 4 rfl rfl hv10 rfl dX2_userInTurn_85 ?_
                    refine V_get (ci := 4) C (ok14 hj0 (vp_lt hv10)) uX4 rfl 9 (Nat.le_of_ble_eq_true rfl) rfl rfl f98 dX2_userInTurn_86 ?_
                    refine V_isub C dX2_userInTurn_89 ?_
                    refine V_topi (fun x2_11 hx2_11 => ?_)
                    replace hJ := hJ x2_11 hx2_11
                    refine V_istore_n (lv' := [(2, .int x2_11), (0, .ref (ad (7, j0, 0))), (3, .int x3_6)]) C dX2_userInTurn_90 (by decide) rfl ?_
                    obtain ⟨x3_12, hx3_12⟩ : ∃ y : Int32, y = x3_6 + 1 := ⟨_, rfl⟩
                    replace hJ := hJ x3_12 hx3_12
                    refine V_iinc (v := x3_12) (lv' := [(3, .int x3_12), (2, .int x2_11), (0, .ref (ad (7, j0, 0)))]) C dX2_userInTurn_91 2 rfl (by rw [hx3_12]; exact congrArg _ ci_1) (by decide) rfl ?_
                    refine V_goto C (tgt := 56) dX2_userInTurn_94 rfl ?_
                    refine V_sub (lv' := [(0, .ref (ad (7, j0, 0))), (2, .int x2_11), (3, .int x3_12)]) [2, 1, 0] rfl ?_
                    exact ih56 x2_11 x3_12 (Nat.lt_of_lt_of_le hJ.2 (Nat.le_of_lt_succ hμ56)) hJ.1
                  · have hJ := hJf hc9; clear hJt hJf
                    refine V_iload_n C dX2_userInTurn_77 2 rfl ?_
                    exact V_iret C hr hlocks dX2_userInTurn_78 hJ
            exact L56 _ r5 0 (Nat.lt_succ_self _) hI56
          · have hJ := hJf hc4; clear hJt hJf
            refine V_bipush (v := (-105)) C dX2_userInTurn_42 cb_m105 ?_
            exact V_iret C hr hlocks dX2_userInTurn_44 hJ
      · have hJ := hJf hc2; clear hJt hJf
        refine V_iload_n C dX2_userInTurn_12 1 rfl ?_
        refine V_aload_n C dX2_userInTurn_13 0 rfl ?_
        refine V_get (ci := 2) C (ok7 hj0) uX2 rfl 1 (Nat.le_of_ble_eq_true rfl) rfl rfl f19 dX2_userInTurn_14 ?_
        refine V_iload_n C dX2_userInTurn_17 2 rfl ?_
        obtain ⟨hv13, hJ⟩ := hJ
        refine V_aald (o' := (14, j0, x2_1.toNatClampNeg)) C (ok9 hj0) 4 rfl rfl hv13 rfl dX2_userInTurn_18 ?_
        refine V_get (ci := 4) C (ok14 hj0 (vp_lt hv13)) uX4 rfl 9 (Nat.le_of_ble_eq_true rfl) rfl rfl f98 dX2_userInTurn_19 ?_
        refine V_iadd C dX2_userInTurn_22 ?_
        refine V_topi (fun x1_14 hx1_14 => ?_)
        replace hJ := hJ x1_14 hx1_14
        refine V_istore_n (lv' := [(1, .int x1_14), (0, .ref (ad (7, j0, 0))), (2, .int x2_1)]) C dX2_userInTurn_23 (by decide) rfl ?_
        obtain ⟨x2_15, hx2_15⟩ : ∃ y : Int32, y = x2_1 + 1 := ⟨_, rfl⟩
        replace hJ := hJ x2_15 hx2_15
        refine V_iinc (v := x2_15) (lv' := [(2, .int x2_15), (1, .int x1_14), (0, .ref (ad (7, j0, 0)))]) C dX2_userInTurn_24 2 rfl (by rw [hx2_15]; exact congrArg _ ci_1) (by decide) rfl ?_
        refine V_goto C (tgt := 4) dX2_userInTurn_27 rfl ?_
        refine V_sub (lv' := [(0, .ref (ad (7, j0, 0))), (1, .int x1_14), (2, .int x2_15)]) [2, 1, 0] rfl ?_
        exact ih4 x1_14 x2_15 (Nat.lt_of_lt_of_le hJ.2 (Nat.le_of_lt_succ hμ4)) hJ.1
  exact L4 _ 0 0 (Nat.lt_succ_self _) hI4
set_option maxHeartbeats 4000000 in
set_option maxRecDepth 100000 in
theorem M_X4_needAt (l : Launch) (D : va_G) (tc : Nat → ClassId) (ad : Oid → Nat) (A : Nat → Prop) (j0 : Nat) (i0 : Nat) (hj0 : j0 < 4) (hi0 : i0 < 12) (x1 : Int32) {σ : Mem} {Qr : Int32 → Mem → Prop} (hJ : J_X4_needAt j0 i0 x1 σ Qr) : Met l yX4_needAt wsX4_needAt ({ frames := 0, cells := 0, slots := 0, locals := 0 }) (va_Pc [.ref (ad (14, j0, i0)), .int x1] (WdI D vwCl (tysX tc) idsX ad (ceX tc ad) A σ)) (va_Qi (fun (r : Int32) (u : Mem) => Qr r u) (WdO D vwCl idsX ad (ceX tc ad) A) A) 0 0 A := by
  refine V_meti (cc := cX4_needAt) (nL := 2) (ret := (some .int)) (own := RX4) rfl (plainFor_of_name (by decide)) rfl rfl (Nat.le_of_ble_eq_true rfl) ?_
  intro p e s m below meth c C hr hlocks
  refine V_sub (lv' := [(0, .ref (ad (14, j0, i0))), (1, .int x1)]) [0, 1] rfl ?_
  have f22 : Cond.fieldLink RX4 22 (TX4 4).1 (TX4 4).2.1 (TX4 4).2.2.1 ∈ wsX4_needAt := List.mem_of_getElem? (i := 1) rfl
  have uX4 : ∀ w ∈ u_ws RX4 TX4 12, w ∈ wsX4_needAt := by decide +kernel
  have f25 : Cond.fieldLink RX4 25 (TX4 5).1 (TX4 5).2.1 (TX4 5).2.2.1 ∈ wsX4_needAt := List.mem_of_getElem? (i := 2) rfl
  have f19 : Cond.fieldLink RX4 19 (TX4 3).1 (TX4 3).2.1 (TX4 3).2.2.1 ∈ wsX4_needAt := List.mem_of_getElem? (i := 3) rfl
  unfold J_X4_needAt at hJ
  refine V_iload_n C dX4_needAt_0 1 rfl ?_
  refine V_aload_n C dX4_needAt_1 0 rfl ?_
  refine V_get (ci := 4) C (ok14 hj0 hi0) uX4 rfl 4 (Nat.le_of_ble_eq_true rfl) rfl rfl f22 dX4_needAt_2 ?_
  obtain ⟨hJt, hJf⟩ := hJ
  refine V_icmp_lt C (tgt := 23) dX4_needAt_5 rfl (fun hc1 => ?_) (fun hc1 => ?_)
  · have hJ := hJt hc1; clear hJt hJf
    refine V_iconst (v := 0) C dX4_needAt_23 ci_0 ?_
    exact V_iret C hr hlocks dX4_needAt_24 hJ
  · have hJ := hJf hc1; clear hJt hJf
    refine V_iload_n C dX4_needAt_8 1 rfl ?_
    refine V_aload_n C dX4_needAt_9 0 rfl ?_
    refine V_get (ci := 4) C (ok14 hj0 hi0) uX4 rfl 5 (Nat.le_of_ble_eq_true rfl) rfl rfl f25 dX4_needAt_10 ?_
    obtain ⟨hJt, hJf⟩ := hJ
    refine V_icmp_ge C (tgt := 23) dX4_needAt_13 rfl (fun hc2 => ?_) (fun hc2 => ?_)
    · have hJ := hJt hc2; clear hJt hJf
      refine V_iconst (v := 0) C dX4_needAt_23 ci_0 ?_
      exact V_iret C hr hlocks dX4_needAt_24 hJ
    · have hJ := hJf hc2; clear hJt hJf
      refine V_aload_n C dX4_needAt_16 0 rfl ?_
      refine V_get (ci := 4) C (ok14 hj0 hi0) uX4 rfl 3 (Nat.le_of_ble_eq_true rfl) rfl rfl f19 dX4_needAt_17 ?_
      refine V_goto C (tgt := 24) dX4_needAt_20 rfl ?_
      exact V_iret C hr hlocks dX4_needAt_24 hJ
set_option maxHeartbeats 4000000 in
set_option maxRecDepth 100000 in
theorem M_X4_room (l : Launch) (D : va_G) (tc : Nat → ClassId) (ad : Oid → Nat) (A : Nat → Prop) (j0 : Nat) (i0 : Nat) (hj0 : j0 < 4) (hi0 : i0 < 12) {σ : Mem} {Qr : Int32 → Mem → Prop} (hJ : J_X4_room j0 i0 σ Qr) : Met l yX4_room wsX4_room ({ frames := 0, cells := 0, slots := 0, locals := 0 }) (va_Pc [.ref (ad (14, j0, i0))] (WdI D vwCl (tysX tc) idsX ad (ceX tc ad) A σ)) (va_Qi (fun (r : Int32) (u : Mem) => Qr r u) (WdO D vwCl idsX ad (ceX tc ad) A) A) 0 0 A := by
  refine V_meti (cc := cX4_room) (nL := 1) (ret := (some .int)) (own := RX4) rfl (plainFor_of_name (by decide)) rfl rfl (Nat.le_of_ble_eq_true rfl) ?_
  intro p e s m below meth c C hr hlocks
  refine V_sub (lv' := [(0, .ref (ad (14, j0, i0)))]) [0] rfl ?_
  have f28 : Cond.fieldLink RX4 28 (TX4 6).1 (TX4 6).2.1 (TX4 6).2.2.1 ∈ wsX4_room := List.mem_of_getElem? (i := 1) rfl
  have uX4 : ∀ w ∈ u_ws RX4 TX4 12, w ∈ wsX4_room := by decide +kernel
  have f31 : Cond.fieldLink RX4 31 (TX4 7).1 (TX4 7).2.1 (TX4 7).2.2.1 ∈ wsX4_room := List.mem_of_getElem? (i := 2) rfl
  unfold J_X4_room at hJ
  refine V_aload_n C dX4_room_0 0 rfl ?_
  refine V_get (ci := 4) C (ok14 hj0 hi0) uX4 rfl 6 (Nat.le_of_ble_eq_true rfl) rfl rfl f28 dX4_room_1 ?_
  refine V_aload_n C dX4_room_4 0 rfl ?_
  refine V_get (ci := 4) C (ok14 hj0 hi0) uX4 rfl 7 (Nat.le_of_ble_eq_true rfl) rfl rfl f31 dX4_room_5 ?_
  refine V_isub C dX4_room_8 ?_
  exact V_iret C hr hlocks dX4_room_9 hJ
set_option maxHeartbeats 4000000 in
set_option maxRecDepth 100000 in
theorem M_X2_unitsAsked (l : Launch) (D : va_G) (tc : Nat → ClassId) (ad : Oid → Nat) (A : Nat → Prop) (j0 : Nat) (hj0 : j0 < 4) (x1 : Int32) (x2 : Int32) {σ : Mem} {Qr : Int32 → Mem → Prop} (hJ : J_X2_unitsAsked j0 x1 x2 σ Qr) : Met l yX2_unitsAsked wsX2_unitsAsked ({ frames := 2, cells := 0, slots := 0, locals := 42 }) (va_Pc [.ref (ad (7, j0, 0)), .int x1, .int x2] (WdI D vwCl (tysX tc) idsX ad (ceX tc ad) A σ)) (va_Qi (fun (r : Int32) (u : Mem) => Qr r u) (WdO D vwCl idsX ad (ceX tc ad) A) A) 0 0 A := by
  refine V_meti (cc := cX2_unitsAsked) (nL := 5) (ret := (some .int)) (own := RX2) rfl (plainFor_of_name (by decide)) rfl rfl (Nat.le_of_ble_eq_true rfl) ?_
  intro p e s m below meth c C hr hlocks
  refine V_sub (lv' := [(0, .ref (ad (7, j0, 0))), (1, .int x1), (2, .int x2)]) [0, 1, 2] rfl ?_
  have f19 : Cond.fieldLink RX2 19 (TX2 1).1 (TX2 1).2.1 (TX2 1).2.2.1 ∈ wsX2_unitsAsked := List.mem_of_getElem? (i := 1) rfl
  have uX2 : ∀ w ∈ u_ws RX2 TX2 10, w ∈ wsX2_unitsAsked := by decide +kernel
  have f101 : Cond.fieldLink RX2 101 (TX4 11).1 (TX4 11).2.1 (TX4 11).2.2.1 ∈ wsX2_unitsAsked := List.mem_of_getElem? (i := 2) rfl
  have uX4 : ∀ w ∈ u_ws RX4 TX4 12, w ∈ wsX2_unitsAsked := by decide +kernel
  have f112 : Cond.fieldLink RX2 112 (TX4 2).1 (TX4 2).2.1 (TX4 2).2.2.1 ∈ wsX2_unitsAsked := List.mem_of_getElem? (i := 3) rfl
  unfold J_X2_unitsAsked at hJ
  refine V_aload_n C dX2_unitsAsked_0 0 rfl ?_
  refine V_get (ci := 2) C (ok7 hj0) uX2 rfl 1 (Nat.le_of_ble_eq_true rfl) rfl rfl f19 dX2_unitsAsked_1 ?_
  refine V_iload_n C dX2_unitsAsked_4 1 rfl ?_
  obtain ⟨hv1, hJ⟩ := hJ
  refine V_aald (o' := (14, j0, x1.toNatClampNeg)) C (ok9 hj0) 4 rfl rfl hv1 rfl dX2_unitsAsked_5 ?_
  refine V_astore_n (lv' := [(3, .ref (ad (14, j0, x1.toNatClampNeg))), (0, .ref (ad (7, j0, 0))), (1, .int x1), (2, .int x2)]) C dX2_unitsAsked_6 (by decide) rfl ?_
  refine V_aload_n C dX2_unitsAsked_7 0 rfl ?_
  refine V_get (ci := 4) C (ok14 hj0 (vp_lt hv1)) uX4 rfl 11 (Nat.le_of_ble_eq_true rfl) rfl rfl f101 dX2_unitsAsked_8 ?_
  obtain ⟨hJt, hJf⟩ := hJ
  refine V_if_eq C (tgt := 16) dX2_unitsAsked_11 rfl (fun hc2 => ?_) (fun hc2 => ?_)
  · have hJ := hJt hc2; clear hJt hJf
    refine V_aload_n C dX2_unitsAsked_16 0 rfl ?_
    refine V_aload_n C dX2_unitsAsked_17 1 rfl ?_
    refine V_cVi (st := [.ref (ad (14, j0, x1.toNatClampNeg))]) (ci := 2) C (ok7 hj0) ⟨Nat.zero_le _, Nat.zero_le _⟩ (M_X2_hourOfDay l D tc ad A j0 hj0 hJ) (cwV 0 C.1.2.2.2.2 gX2_unitsAsked_X2_hourOfDay rfl rfl rfl (by decide +kernel) ⟨Nat.le_of_ble_eq_true rfl, Nat.le_of_ble_eq_true rfl⟩) rfl rfl rfl rfl (Nat.le_of_ble_eq_true rfl) dX2_unitsAsked_18 (fun r3 τ3 hJ => ?_)
    refine V_cVi (st := []) (ci := 4) C (ok14 hj0 (vp_lt hv1)) ⟨Nat.zero_le _, Nat.zero_le _⟩ (M_X4_needAt l D tc ad A j0 x1.toNatClampNeg hj0 (vp_lt hv1) r3 hJ) (cwV 1 C.1.2.2.2.2 gX2_unitsAsked_X4_needAt rfl rfl rfl (by decide +kernel) ⟨Nat.le_of_ble_eq_true rfl, Nat.le_of_ble_eq_true rfl⟩) rfl rfl rfl rfl (Nat.le_of_ble_eq_true rfl) dX2_unitsAsked_21 (fun r4 τ4 hJ => ?_)
    refine V_aload_n C dX2_unitsAsked_24 0 rfl ?_
    refine V_cVi (st := [.int r4]) (ci := 4) C (ok14 hj0 (vp_lt hv1)) ⟨Nat.zero_le _, Nat.zero_le _⟩ (M_X4_room l D tc ad A j0 x1.toNatClampNeg hj0 (vp_lt hv1) hJ) (cwV 0 C.1.2.2.2.2 gX2_unitsAsked_X4_room rfl rfl rfl (by decide +kernel) ⟨Nat.le_of_ble_eq_true rfl, Nat.le_of_ble_eq_true rfl⟩) rfl rfl rfl rfl (Nat.le_of_ble_eq_true rfl) dX2_unitsAsked_25 (fun r5 τ5 hJ => ?_)
    refine V_iadd C dX2_unitsAsked_28 ?_
    refine V_topi (fun x4_6 hx4_6 => ?_)
    replace hJ := hJ x4_6 hx4_6
    refine V_istore (lv' := [(4, .int x4_6), (3, .ref (ad (14, j0, x1.toNatClampNeg))), (0, .ref (ad (7, j0, 0))), (1, .int x1), (2, .int x2)]) C dX2_unitsAsked_29 (by decide) rfl ?_
    refine V_iload_n C dX2_unitsAsked_31 3 rfl ?_
    refine V_iload_n C dX2_unitsAsked_32 4 rfl ?_
    obtain ⟨hJt, hJf⟩ := hJ
    refine V_icmp_ne C (tgt := 41) dX2_unitsAsked_33 rfl (fun hc7 => ?_) (fun hc7 => ?_)
    · have hJ := hJt hc7; clear hJt hJf
      refine V_aload_n C dX2_unitsAsked_41 1 rfl ?_
      refine V_get (ci := 4) C (ok14 hj0 (vp_lt hv1)) uX4 rfl 2 (Nat.le_of_ble_eq_true rfl) rfl rfl f112 dX2_unitsAsked_42 ?_
      refine V_iload C dX2_unitsAsked_45 0 rfl ?_
      refine V_mmin C ⟨Nat.zero_le _, Nat.zero_le _⟩ (List.mem_of_getElem? (i := 4) rfl) (List.mem_of_getElem? (i := 5) rfl) (List.mem_of_getElem? (i := 6) rfl) (List.mem_of_getElem? (i := 7) rfl) (Nat.le_of_ble_eq_true rfl) (Nat.le_of_ble_eq_true rfl) dX2_unitsAsked_47 ?_
      exact V_iret C hr hlocks dX2_unitsAsked_50 hJ
    · have hJ := hJf hc7; clear hJt hJf
      refine V_iload C dX2_unitsAsked_36 0 rfl ?_
      refine V_goto C (tgt := 50) dX2_unitsAsked_38 rfl ?_
      exact V_iret C hr hlocks dX2_unitsAsked_50 hJ
  · have hJ := hJf hc2; clear hJt hJf
    refine V_iconst (v := 0) C dX2_unitsAsked_14 ci_0 ?_
    exact V_iret C hr hlocks dX2_unitsAsked_15 hJ
set_option maxHeartbeats 4000000 in
set_option maxRecDepth 100000 in
theorem M_X1_giveShares (l : Launch) (D : va_G) (tc : Nat → ClassId) (ad : Oid → Nat) (A : Nat → Prop) (j1 : Nat) (hj1 : j1 < 4) (x2 : Int32) {σ : Mem} {Qr : Mem → Prop} (hJ : J_X1_giveShares j1 x2 σ Qr) : Met l yX1_giveShares wsX1_giveShares ({ frames := 0, cells := 0, slots := 0, locals := 0 }) (va_Pc [.ref (ad (3, 0, 0)), .ref (ad (7, j1, 0)), .int x2] (WdI D vwCl (tysX tc) idsX ad (ceX tc ad) A σ)) (va_Qv (fun (u : Mem) => Qr u) (WdO D vwCl idsX ad (ceX tc ad) A) A) 0 0 A := by
  refine V_metv (cc := cX1_giveShares) (nL := 4) (ret := none) (own := RX1) rfl (plainFor_of_name (by decide)) rfl rfl (Nat.le_of_ble_eq_true rfl) ?_
  intro p e s m below meth c C hr hlocks
  refine V_sub (lv' := [(0, .ref (ad (3, 0, 0))), (1, .ref (ad (7, j1, 0))), (2, .int x2)]) [0, 1, 2] rfl ?_
  have f40 : Cond.fieldLink RX1 40 (TX2 6).1 (TX2 6).2.1 (TX2 6).2.2.1 ∈ wsX1_giveShares := List.mem_of_getElem? (i := 1) rfl
  have uX2 : ∀ w ∈ u_ws RX2 TX2 10, w ∈ wsX1_giveShares := by decide +kernel
  have f15 : Cond.fieldLink RX1 15 (TX1 1).1 (TX1 1).2.1 (TX1 1).2.2.1 ∈ wsX1_giveShares := List.mem_of_getElem? (i := 2) rfl
  have uX1 : ∀ w ∈ u_ws RX1 TX1 6, w ∈ wsX1_giveShares := by decide +kernel
  have f9 : Cond.fieldLink RX1 9 (TX1 0).1 (TX1 0).2.1 (TX1 0).2.2.1 ∈ wsX1_giveShares := List.mem_of_getElem? (i := 3) rfl
  unfold J_X1_giveShares at hJ
  refine V_iconst (v := 0) C dX1_giveShares_0 ci_0 ?_
  refine V_istore_n (lv' := [(3, .int 0), (0, .ref (ad (3, 0, 0))), (1, .ref (ad (7, j1, 0))), (2, .int x2)]) C dX1_giveShares_1 (by decide) rfl ?_
  refine V_sub (lv' := [(0, .ref (ad (3, 0, 0))), (1, .ref (ad (7, j1, 0))), (2, .int x2), (3, .int 0)]) [1, 2, 3, 0] rfl ?_
  obtain ⟨I2, μ2, hI2, hst2⟩ := hJ
  have L2 : ∀ (n : Nat) (x3_1 : Int32) (τ1 : Mem), μ2 x3_1 τ1 < n → I2 x3_1 τ1 → VV p l e (headSpec wsX1_giveShares ({ frames := 0, cells := 0, slots := 0, locals := 0 })).room s m ([.ref (ad (3, 0, 0)), .ref (ad (7, j1, 0)), .int x2] : List Value).toArray below meth c D vwCl idsX ad (ceX tc ad) A (MQ below (va_Qv (fun (u : Mem) => Qr u) (WdO D vwCl idsX ad (ceX tc ad) A) A) ([.ref (ad (3, 0, 0)), .ref (ad (7, j1, 0)), .int x2] : List Value).toArray s 0 0 A) 4 (0, 0) 2 [(0, .ref (ad (3, 0, 0))), (1, .ref (ad (7, j1, 0))), (2, .int x2), (3, .int x3_1)] [] τ1 := by
    intro n
    induction n with
    | zero => intro x3_1 τ1 hμ _; exact absurd hμ (Nat.not_lt_zero _)
    | succ n ihn =>
      intro x3_1 τ1 hμ2 hJ
      have ih2 := ihn
      replace hJ := hst2 x3_1 τ1 hJ
      refine V_iload_n C dX1_giveShares_2 3 rfl ?_
      refine V_aload_n C dX1_giveShares_3 1 rfl ?_
      refine V_get (ci := 2) C (ok7 hj1) uX2 rfl 6 (Nat.le_of_ble_eq_true rfl) rfl rfl f40 dX1_giveShares_4 ?_
      obtain ⟨hJt, hJf⟩ := hJ
      refine V_icmp_ge C (tgt := 33) dX1_giveShares_7 rfl (fun hc2 => ?_) (fun hc2 => ?_)
      · have hJ := hJt hc2; clear hJt hJf
        exact V_vret C hr hlocks dX1_giveShares_33 hJ
      · have hJ := hJf hc2; clear hJt hJf
        refine V_aload_n C dX1_giveShares_10 0 rfl ?_
        refine V_get (ci := 1) C okX_3_0 uX1 rfl 1 (Nat.le_of_ble_eq_true rfl) rfl rfl f15 dX1_giveShares_11 ?_
        refine V_iload_n C dX1_giveShares_14 3 rfl ?_
        refine V_aload_n C dX1_giveShares_15 0 rfl ?_
        refine V_get (ci := 1) C okX_3_0 uX1 rfl 0 (Nat.le_of_ble_eq_true rfl) rfl rfl f9 dX1_giveShares_16 ?_
        refine V_iload_n C dX1_giveShares_19 3 rfl ?_
        obtain ⟨hv3, hJ⟩ := hJ
        refine V_iald C okX_4_0 0 rfl rfl rfl hv3 dX1_giveShares_20 ?_
        refine V_iload_n C dX1_giveShares_21 2 rfl ?_
        refine V_imul C dX1_giveShares_22 ?_
        refine V_bipush (v := 100) C dX1_giveShares_23 cb_100 ?_
        refine V_idiv C dX1_giveShares_25 (by decide) ?_
        obtain ⟨hv4, hJ⟩ := hJ
        refine V_iast C okX_4_1 0 rfl (fun _ => rfl) rfl hv4 dX1_giveShares_26 (fun τ5 hτ5 => ?_)
        replace hJ := hJ τ5 hτ5
        obtain ⟨x3_6, hx3_6⟩ : ∃ y : Int32, y = x3_1 + 1 := ⟨_, rfl⟩
        replace hJ := hJ x3_6 hx3_6
        refine V_iinc (v := x3_6) (lv' := [(3, .int x3_6), (0, .ref (ad (3, 0, 0))), (1, .ref (ad (7, j1, 0))), (2, .int x2)]) C dX1_giveShares_27 3 rfl (by rw [hx3_6]; exact congrArg _ ci_1) (by decide) rfl ?_
        refine V_goto C (tgt := 2) dX1_giveShares_30 rfl ?_
        refine V_sub (lv' := [(0, .ref (ad (3, 0, 0))), (1, .ref (ad (7, j1, 0))), (2, .int x2), (3, .int x3_6)]) [1, 2, 3, 0] rfl ?_
        exact ih2 x3_6 τ5 (Nat.lt_of_lt_of_le hJ.2 (Nat.le_of_lt_succ hμ2)) hJ.1
  exact L2 _ 0 σ (Nat.lt_succ_self _) hI2
set_option maxHeartbeats 4000000 in
set_option maxRecDepth 100000 in
theorem M_X0_inflowFor (l : Launch) (D : va_G) (tc : Nat → ClassId) (ad : Oid → Nat) (A : Nat → Prop) (j0 : Nat) (i0 : Nat) (hj0 : j0 < 4) (hi0 : i0 < 10) (x1 : Int32) {σ : Mem} {Qr : Int32 → Mem → Prop} (hJ : J_X0_inflowFor j0 i0 x1 σ Qr) : Met l yX0_inflowFor wsX0_inflowFor ({ frames := 0, cells := 0, slots := 0, locals := 0 }) (va_Pc [.ref (ad (13, j0, i0)), .int x1] (WdI D vwCl (tysX tc) idsX ad (ceX tc ad) A σ)) (va_Qi (fun (r : Int32) (u : Mem) => Qr r u) (WdO D vwCl idsX ad (ceX tc ad) A) A) 0 0 A := by
  refine V_meti (cc := cX0_inflowFor) (nL := 3) (ret := (some .int)) (own := RX0) rfl (plainFor_of_name (by decide)) rfl rfl (Nat.le_of_ble_eq_true rfl) ?_
  intro p e s m below meth c C hr hlocks
  refine V_sub (lv' := [(0, .ref (ad (13, j0, i0))), (1, .int x1)]) [0, 1] rfl ?_
  have f16 : Cond.fieldLink RX0 16 (TX0 2).1 (TX0 2).2.1 (TX0 2).2.2.1 ∈ wsX0_inflowFor := List.mem_of_getElem? (i := 1) rfl
  have uX0 : ∀ w ∈ u_ws RX0 TX0 3, w ∈ wsX0_inflowFor := by decide +kernel
  unfold J_X0_inflowFor at hJ
  refine V_bipush (v := 100) C dX0_inflowFor_0 cb_100 ?_
  refine V_aload_n C dX0_inflowFor_2 0 rfl ?_
  refine V_get (ci := 0) C (ok13 hj0 hi0) uX0 rfl 2 (Nat.le_of_ble_eq_true rfl) rfl rfl f16 dX0_inflowFor_3 ?_
  refine V_isub C dX0_inflowFor_6 ?_
  refine V_topi (fun x2_1 hx2_1 => ?_)
  replace hJ := hJ x2_1 hx2_1
  refine V_istore_n (lv' := [(2, .int x2_1), (0, .ref (ad (13, j0, i0))), (1, .int x1)]) C dX0_inflowFor_7 (by decide) rfl ?_
  refine V_iload_n C dX0_inflowFor_8 0 rfl ?_
  obtain ⟨hJt, hJf⟩ := hJ
  refine V_if_le C (tgt := 25) dX0_inflowFor_9 rfl (fun hc2 => ?_) (fun hc2 => ?_)
  · have hJ := hJt hc2; clear hJt hJf
    refine V_iconst (v := 0) C dX0_inflowFor_25 ci_0 ?_
    exact V_iret C hr hlocks dX0_inflowFor_26 hJ
  · have hJ := hJf hc2; clear hJt hJf
    refine V_bipush (v := 100) C dX0_inflowFor_12 cb_100 ?_
    refine V_iload_n C dX0_inflowFor_14 2 rfl ?_
    refine V_imul C dX0_inflowFor_15 ?_
    refine V_iload_n C dX0_inflowFor_16 0 rfl ?_
    refine V_iadd C dX0_inflowFor_17 ?_
    refine V_iconst (v := 1) C dX0_inflowFor_18 ci_1 ?_
    refine V_isub C dX0_inflowFor_19 ?_
    refine V_iload_n C dX0_inflowFor_20 0 rfl ?_
    obtain ⟨hz3, hJ⟩ := hJ
    refine V_idiv C dX0_inflowFor_21 hz3 ?_
    refine V_goto C (tgt := 26) dX0_inflowFor_22 rfl ?_
    exact V_iret C hr hlocks dX0_inflowFor_26 hJ
set_option maxHeartbeats 4000000 in
set_option maxRecDepth 100000 in
theorem M_X1_spread (l : Launch) (D : va_G) (tc : Nat → ClassId) (ad : Oid → Nat) (A : Nat → Prop) (j1 : Nat) (hj1 : j1 < 4) {σ : Mem} {Qr : Mem → Prop} (hJ : J_X1_spread j1 σ Qr) : Met l yX1_spread wsX1_spread ({ frames := 1, cells := 0, slots := 0, locals := 22 }) (va_Pc [.ref (ad (3, 0, 0)), .ref (ad (7, j1, 0))] (WdI D vwCl (tysX tc) idsX ad (ceX tc ad) A σ)) (va_Qv (fun (u : Mem) => Qr u) (WdO D vwCl idsX ad (ceX tc ad) A) A) 0 0 A := by
  refine V_metv (cc := cX1_spread) (nL := 3) (ret := none) (own := RX1) rfl (plainFor_of_name (by decide)) rfl rfl (Nat.le_of_ble_eq_true rfl) ?_
  intro p e s m below meth c C hr hlocks
  refine V_sub (lv' := [(0, .ref (ad (3, 0, 0))), (1, .ref (ad (7, j1, 0)))]) [0, 1] rfl ?_
  have f77 : Cond.fieldLink RX1 77 (TX2 5).1 (TX2 5).2.1 (TX2 5).2.2.1 ∈ wsX1_spread := List.mem_of_getElem? (i := 1) rfl
  have uX2 : ∀ w ∈ u_ws RX2 TX2 10, w ∈ wsX1_spread := by decide +kernel
  have f40 : Cond.fieldLink RX1 40 (TX2 6).1 (TX2 6).2.1 (TX2 6).2.2.1 ∈ wsX1_spread := List.mem_of_getElem? (i := 3) rfl
  have f18 : Cond.fieldLink RX1 18 (TX1 2).1 (TX1 2).2.1 (TX1 2).2.2.1 ∈ wsX1_spread := List.mem_of_getElem? (i := 7) rfl
  have uX1 : ∀ w ∈ u_ws RX1 TX1 6, w ∈ wsX1_spread := by decide +kernel
  have f80 : Cond.fieldLink RX1 80 (TX2 0).1 (TX2 0).2.1 (TX2 0).2.2.1 ∈ wsX1_spread := List.mem_of_getElem? (i := 8) rfl
  have f21 : Cond.fieldLink RX1 21 (TX1 3).1 (TX1 3).2.1 (TX1 3).2.2.1 ∈ wsX1_spread := List.mem_of_getElem? (i := 2) rfl
  have f88 : Cond.fieldLink RX1 88 (TX0 0).1 (TX0 0).2.1 (TX0 0).2.2.1 ∈ wsX1_spread := List.mem_of_getElem? (i := 9) rfl
  have uX0 : ∀ w ∈ u_ws RX0 TX0 3, w ∈ wsX1_spread := by decide +kernel
  have f68 : Cond.fieldLink RX1 68 (TX2 1).1 (TX2 1).2.1 (TX2 1).2.2.1 ∈ wsX1_spread := List.mem_of_getElem? (i := 4) rfl
  have f72 : Cond.fieldLink RX1 72 (TX4 0).1 (TX4 0).2.1 (TX4 0).2.2.1 ∈ wsX1_spread := List.mem_of_getElem? (i := 5) rfl
  have uX4 : ∀ w ∈ u_ws RX4 TX4 12, w ∈ wsX1_spread := by decide +kernel
  have f15 : Cond.fieldLink RX1 15 (TX1 1).1 (TX1 1).2.1 (TX1 1).2.2.1 ∈ wsX1_spread := List.mem_of_getElem? (i := 6) rfl
  unfold J_X1_spread at hJ
  refine V_iconst (v := 0) C dX1_spread_0 ci_0 ?_
  refine V_istore_n (lv' := [(2, .int 0), (0, .ref (ad (3, 0, 0))), (1, .ref (ad (7, j1, 0)))]) C dX1_spread_1 (by decide) rfl ?_
  refine V_sub (lv' := [(0, .ref (ad (3, 0, 0))), (1, .ref (ad (7, j1, 0))), (2, .int 0)]) [1, 2, 0] rfl ?_
  obtain ⟨I2, μ2, hI2, hst2⟩ := hJ
  have L2 : ∀ (n : Nat) (x2_1 : Int32) (τ1 : Mem), μ2 x2_1 τ1 < n → I2 x2_1 τ1 → VV p l e (headSpec wsX1_spread ({ frames := 1, cells := 0, slots := 0, locals := 22 })).room s m ([.ref (ad (3, 0, 0)), .ref (ad (7, j1, 0))] : List Value).toArray below meth c D vwCl idsX ad (ceX tc ad) A (MQ below (va_Qv (fun (u : Mem) => Qr u) (WdO D vwCl idsX ad (ceX tc ad) A) A) ([.ref (ad (3, 0, 0)), .ref (ad (7, j1, 0))] : List Value).toArray s 0 0 A) 3 (0, 0) 2 [(0, .ref (ad (3, 0, 0))), (1, .ref (ad (7, j1, 0))), (2, .int x2_1)] [] τ1 := by
    intro n
    induction n with
    | zero => intro x2_1 τ1 hμ _; exact absurd hμ (Nat.not_lt_zero _)
    | succ n ihn =>
      intro x2_1 τ1 hμ2 hJ
      have ih2 := ihn
      replace hJ := hst2 x2_1 τ1 hJ
      refine V_iload_n C dX1_spread_2 2 rfl ?_
      refine V_aload_n C dX1_spread_3 1 rfl ?_
      refine V_get (ci := 2) C (ok7 hj1) uX2 rfl 5 (Nat.le_of_ble_eq_true rfl) rfl rfl f77 dX1_spread_4 ?_
      obtain ⟨hJt, hJf⟩ := hJ
      refine V_icmp_ge C (tgt := 23) dX1_spread_7 rfl (fun hc2 => ?_) (fun hc2 => ?_)
      · have hJ := hJt hc2; clear hJt hJf
        refine V_iconst (v := 0) C dX1_spread_23 ci_0 ?_
        refine V_istore_n (lv' := [(2, .int 0), (0, .ref (ad (3, 0, 0))), (1, .ref (ad (7, j1, 0)))]) C dX1_spread_24 (by decide) rfl ?_
        refine V_sub (lv' := [(0, .ref (ad (3, 0, 0))), (1, .ref (ad (7, j1, 0))), (2, .int 0)]) [1, 2, 0] rfl ?_
        obtain ⟨I25, μ25, hI25, hst25⟩ := hJ
        have L25 : ∀ (n : Nat) (x2_3 : Int32) (τ3 : Mem), μ25 x2_3 τ3 < n → I25 x2_3 τ3 → VV p l e (headSpec wsX1_spread ({ frames := 1, cells := 0, slots := 0, locals := 22 })).room s m ([.ref (ad (3, 0, 0)), .ref (ad (7, j1, 0))] : List Value).toArray below meth c D vwCl idsX ad (ceX tc ad) A (MQ below (va_Qv (fun (u : Mem) => Qr u) (WdO D vwCl idsX ad (ceX tc ad) A) A) ([.ref (ad (3, 0, 0)), .ref (ad (7, j1, 0))] : List Value).toArray s 0 0 A) 3 (0, 0) 25 [(0, .ref (ad (3, 0, 0))), (1, .ref (ad (7, j1, 0))), (2, .int x2_3)] [] τ3 := by
          intro n
          induction n with
          | zero => intro x2_3 τ3 hμ _; exact absurd hμ (Nat.not_lt_zero _)
          | succ n ihn =>
            intro x2_3 τ3 hμ25 hJ
            have ih25 := ihn
            replace hJ := hst25 x2_3 τ3 hJ
            refine V_iload_n C dX1_spread_25 2 rfl ?_
            refine V_aload_n C dX1_spread_26 1 rfl ?_
            refine V_get (ci := 2) C (ok7 hj1) uX2 rfl 6 (Nat.le_of_ble_eq_true rfl) rfl rfl f40 dX1_spread_27 ?_
            obtain ⟨hJt, hJf⟩ := hJ
            refine V_icmp_ge C (tgt := 62) dX1_spread_30 rfl (fun hc4 => ?_) (fun hc4 => ?_)
            · have hJ := hJt hc4; clear hJt hJf
              refine V_aload_n C dX1_spread_62 1 rfl ?_
              refine V_get (ci := 2) C (ok7 hj1) uX2 rfl 5 (Nat.le_of_ble_eq_true rfl) rfl rfl f77 dX1_spread_63 ?_
              refine V_iconst (v := 1) C dX1_spread_66 ci_1 ?_
              refine V_isub C dX1_spread_67 ?_
              refine V_topi (fun x2_5 hx2_5 => ?_)
              replace hJ := hJ x2_5 hx2_5
              refine V_istore_n (lv' := [(2, .int x2_5), (0, .ref (ad (3, 0, 0))), (1, .ref (ad (7, j1, 0)))]) C dX1_spread_68 (by decide) rfl ?_
              refine V_sub (lv' := [(0, .ref (ad (3, 0, 0))), (1, .ref (ad (7, j1, 0))), (2, .int x2_5)]) [1, 2, 0] rfl ?_
              obtain ⟨I69, μ69, hI69, hst69⟩ := hJ
              have L69 : ∀ (n : Nat) (x2_6 : Int32) (τ6 : Mem), μ69 x2_6 τ6 < n → I69 x2_6 τ6 → VV p l e (headSpec wsX1_spread ({ frames := 1, cells := 0, slots := 0, locals := 22 })).room s m ([.ref (ad (3, 0, 0)), .ref (ad (7, j1, 0))] : List Value).toArray below meth c D vwCl idsX ad (ceX tc ad) A (MQ below (va_Qv (fun (u : Mem) => Qr u) (WdO D vwCl idsX ad (ceX tc ad) A) A) ([.ref (ad (3, 0, 0)), .ref (ad (7, j1, 0))] : List Value).toArray s 0 0 A) 3 (0, 0) 69 [(0, .ref (ad (3, 0, 0))), (1, .ref (ad (7, j1, 0))), (2, .int x2_6)] [] τ6 := by
                intro n
                induction n with
                | zero => intro x2_6 τ6 hμ _; exact absurd hμ (Nat.not_lt_zero _)
                | succ n ihn =>
                  intro x2_6 τ6 hμ69 hJ
                  have ih69 := ihn
                  replace hJ := hst69 x2_6 τ6 hJ
                  refine V_iload_n C dX1_spread_69 2 rfl ?_
                  obtain ⟨hJt, hJf⟩ := hJ
                  refine V_if_lt C (tgt := 127) dX1_spread_70 rfl (fun hc7 => ?_) (fun hc7 => ?_)
                  · have hJ := hJt hc7; clear hJt hJf
                    exact V_vret C hr hlocks dX1_spread_127 hJ
                  · have hJ := hJf hc7; clear hJt hJf
                    refine V_aload_n C dX1_spread_73 0 rfl ?_
                    refine V_get (ci := 1) C okX_3_0 uX1 rfl 2 (Nat.le_of_ble_eq_true rfl) rfl rfl f18 dX1_spread_74 ?_
                    refine V_iload_n C dX1_spread_77 2 rfl ?_
                    refine V_aload_n C dX1_spread_78 1 rfl ?_
                    refine V_get (ci := 2) C (ok7 hj1) uX2 rfl 0 (Nat.le_of_ble_eq_true rfl) rfl rfl f80 dX1_spread_79 ?_
                    refine V_iload_n C dX1_spread_82 2 rfl ?_
                    obtain ⟨hv8, hJ⟩ := hJ
                    refine V_aald (o' := (13, j1, x2_6.toNatClampNeg)) C (ok8 hj1) 3 rfl rfl hv8 rfl dX1_spread_83 ?_
                    refine V_aload_n C dX1_spread_84 0 rfl ?_
                    refine V_get (ci := 1) C okX_3_0 uX1 rfl 3 (Nat.le_of_ble_eq_true rfl) rfl rfl f21 dX1_spread_85 ?_
                    refine V_iload_n C dX1_spread_88 2 rfl ?_
                    obtain ⟨hv9, hJ⟩ := hJ
                    refine V_iald C okX_15_1 0 rfl rfl rfl hv9 dX1_spread_89 ?_
                    refine V_cVi (st := [.int x2_6, .ref (ad (15, 0, 0))]) (ci := 0) C (ok13 hj1 (vp_lt hv8)) ⟨Nat.zero_le _, Nat.zero_le _⟩ (M_X0_inflowFor l D tc ad A j1 x2_6.toNatClampNeg hj1 (vp_lt hv8) (τ6 (15, 1, 0) x2_6.toNatClampNeg) hJ) (cwV 1 C.1.2.2.2.2 gX1_spread_X0_inflowFor rfl rfl rfl (by decide +kernel) ⟨Nat.le_of_ble_eq_true rfl, Nat.le_of_ble_eq_true rfl⟩) rfl rfl rfl rfl (Nat.le_of_ble_eq_true rfl) dX1_spread_90 (fun r10 τ10 hJ => ?_)
                    obtain ⟨hv11, hJ⟩ := hJ
                    refine V_iast C okX_15_0 0 rfl (fun _ => rfl) rfl hv11 dX1_spread_93 (fun τ12 hτ12 => ?_)
                    replace hJ := hJ τ12 hτ12
                    refine V_iload_n C dX1_spread_94 2 rfl ?_
                    obtain ⟨hJt, hJf⟩ := hJ
                    refine V_if_le C (tgt := 121) dX1_spread_95 rfl (fun hc13 => ?_) (fun hc13 => ?_)
                    · have hJ := hJt hc13; clear hJt hJf
                      obtain ⟨x2_14, hx2_14⟩ : ∃ y : Int32, y = x2_6 + (-1) := ⟨_, rfl⟩
                      replace hJ := hJ x2_14 hx2_14
                      refine V_iinc (v := x2_14) (lv' := [(2, .int x2_14), (0, .ref (ad (3, 0, 0))), (1, .ref (ad (7, j1, 0)))]) C dX1_spread_121 2 rfl (by rw [hx2_14]; exact congrArg _ ci_m1) (by decide) rfl ?_
                      refine V_goto C (tgt := 69) dX1_spread_124 rfl ?_
                      refine V_sub (lv' := [(0, .ref (ad (3, 0, 0))), (1, .ref (ad (7, j1, 0))), (2, .int x2_14)]) [1, 2, 0] rfl ?_
                      exact ih69 x2_14 τ12 (Nat.lt_of_lt_of_le hJ.2 (Nat.le_of_lt_succ hμ69)) hJ.1
                    · have hJ := hJf hc13; clear hJt hJf
                      refine V_aload_n C dX1_spread_98 0 rfl ?_
                      refine V_get (ci := 1) C okX_3_0 uX1 rfl 3 (Nat.le_of_ble_eq_true rfl) rfl rfl f21 dX1_spread_99 ?_
                      refine V_aload_n C dX1_spread_102 1 rfl ?_
                      refine V_get (ci := 2) C (ok7 hj1) uX2 rfl 0 (Nat.le_of_ble_eq_true rfl) rfl rfl f80 dX1_spread_103 ?_
                      refine V_iload_n C dX1_spread_106 2 rfl ?_
                      obtain ⟨hv15, hJ⟩ := hJ
                      refine V_aald (o' := (13, j1, x2_6.toNatClampNeg)) C (ok8 hj1) 3 rfl rfl hv15 rfl dX1_spread_107 ?_
                      refine V_get (ci := 0) C (ok13 hj1 (vp_lt hv15)) uX0 rfl 0 (Nat.le_of_ble_eq_true rfl) rfl rfl f88 dX1_spread_108 ?_
                      refine V_dup2 C dX1_spread_111 rfl rfl ?_
                      obtain ⟨hv16, hJ⟩ := hJ
                      refine V_iald C okX_15_1 0 rfl rfl rfl hv16 dX1_spread_112 ?_
                      refine V_aload_n C dX1_spread_113 0 rfl ?_
                      refine V_get (ci := 1) C okX_3_0 uX1 rfl 2 (Nat.le_of_ble_eq_true rfl) rfl rfl f18 dX1_spread_114 ?_
                      refine V_iload_n C dX1_spread_117 2 rfl ?_
                      obtain ⟨hv17, hJ⟩ := hJ
                      refine V_iald C okX_15_0 0 rfl rfl rfl hv17 dX1_spread_118 ?_
                      refine V_iadd C dX1_spread_119 ?_
                      obtain ⟨hv18, hJ⟩ := hJ
                      refine V_iast C okX_15_1 0 rfl (fun _ => rfl) rfl hv18 dX1_spread_120 (fun τ19 hτ19 => ?_)
                      replace hJ := hJ τ19 hτ19
                      obtain ⟨x2_20, hx2_20⟩ : ∃ y : Int32, y = x2_6 + (-1) := ⟨_, rfl⟩
                      replace hJ := hJ x2_20 hx2_20
                      refine V_iinc (v := x2_20) (lv' := [(2, .int x2_20), (0, .ref (ad (3, 0, 0))), (1, .ref (ad (7, j1, 0)))]) C dX1_spread_121 2 rfl (by rw [hx2_20]; exact congrArg _ ci_m1) (by decide) rfl ?_
                      refine V_goto C (tgt := 69) dX1_spread_124 rfl ?_
                      refine V_sub (lv' := [(0, .ref (ad (3, 0, 0))), (1, .ref (ad (7, j1, 0))), (2, .int x2_20)]) [1, 2, 0] rfl ?_
                      exact ih69 x2_20 τ19 (Nat.lt_of_lt_of_le hJ.2 (Nat.le_of_lt_succ hμ69)) hJ.1
              exact L69 _ x2_5 τ3 (Nat.lt_succ_self _) hI69
            · have hJ := hJf hc4; clear hJt hJf
              refine V_aload_n C dX1_spread_33 0 rfl ?_
              refine V_get (ci := 1) C okX_3_0 uX1 rfl 3 (Nat.le_of_ble_eq_true rfl) rfl rfl f21 dX1_spread_34 ?_
              refine V_aload_n C dX1_spread_37 1 rfl ?_
              refine V_get (ci := 2) C (ok7 hj1) uX2 rfl 1 (Nat.le_of_ble_eq_true rfl) rfl rfl f68 dX1_spread_38 ?_
              refine V_iload_n C dX1_spread_41 2 rfl ?_
              obtain ⟨hv21, hJ⟩ := hJ
              refine V_aald (o' := (14, j1, x2_3.toNatClampNeg)) C (ok9 hj1) 4 rfl rfl hv21 rfl dX1_spread_42 ?_
              refine V_get (ci := 4) C (ok14 hj1 (vp_lt hv21)) uX4 rfl 0 (Nat.le_of_ble_eq_true rfl) rfl rfl f72 dX1_spread_43 ?_
              refine V_dup2 C dX1_spread_46 rfl rfl ?_
              obtain ⟨hv22, hJ⟩ := hJ
              refine V_iald C okX_15_1 0 rfl rfl rfl hv22 dX1_spread_47 ?_
              refine V_aload_n C dX1_spread_48 0 rfl ?_
              refine V_get (ci := 1) C okX_3_0 uX1 rfl 1 (Nat.le_of_ble_eq_true rfl) rfl rfl f15 dX1_spread_49 ?_
              refine V_iload_n C dX1_spread_52 2 rfl ?_
              obtain ⟨hv23, hJ⟩ := hJ
              refine V_iald C okX_4_1 0 rfl rfl rfl hv23 dX1_spread_53 ?_
              refine V_iadd C dX1_spread_54 ?_
              obtain ⟨hv24, hJ⟩ := hJ
              refine V_iast C okX_15_1 0 rfl (fun _ => rfl) rfl hv24 dX1_spread_55 (fun τ25 hτ25 => ?_)
              replace hJ := hJ τ25 hτ25
              obtain ⟨x2_26, hx2_26⟩ : ∃ y : Int32, y = x2_3 + 1 := ⟨_, rfl⟩
              replace hJ := hJ x2_26 hx2_26
              refine V_iinc (v := x2_26) (lv' := [(2, .int x2_26), (0, .ref (ad (3, 0, 0))), (1, .ref (ad (7, j1, 0)))]) C dX1_spread_56 2 rfl (by rw [hx2_26]; exact congrArg _ ci_1) (by decide) rfl ?_
              refine V_goto C (tgt := 25) dX1_spread_59 rfl ?_
              refine V_sub (lv' := [(0, .ref (ad (3, 0, 0))), (1, .ref (ad (7, j1, 0))), (2, .int x2_26)]) [1, 2, 0] rfl ?_
              exact ih25 x2_26 τ25 (Nat.lt_of_lt_of_le hJ.2 (Nat.le_of_lt_succ hμ25)) hJ.1
        exact L25 _ 0 τ1 (Nat.lt_succ_self _) hI25
      · have hJ := hJf hc2; clear hJt hJf
        refine V_aload_n C dX1_spread_10 0 rfl ?_
        refine V_get (ci := 1) C okX_3_0 uX1 rfl 3 (Nat.le_of_ble_eq_true rfl) rfl rfl f21 dX1_spread_11 ?_
        refine V_iload_n C dX1_spread_14 2 rfl ?_
        refine V_iconst (v := 0) C dX1_spread_15 ci_0 ?_
        obtain ⟨hv27, hJ⟩ := hJ
        refine V_iast C okX_15_1 0 rfl (fun _ => rfl) rfl hv27 dX1_spread_16 (fun τ28 hτ28 => ?_)
        replace hJ := hJ τ28 hτ28
        obtain ⟨x2_29, hx2_29⟩ : ∃ y : Int32, y = x2_1 + 1 := ⟨_, rfl⟩
        replace hJ := hJ x2_29 hx2_29
        refine V_iinc (v := x2_29) (lv' := [(2, .int x2_29), (0, .ref (ad (3, 0, 0))), (1, .ref (ad (7, j1, 0)))]) C dX1_spread_17 2 rfl (by rw [hx2_29]; exact congrArg _ ci_1) (by decide) rfl ?_
        refine V_goto C (tgt := 2) dX1_spread_20 rfl ?_
        refine V_sub (lv' := [(0, .ref (ad (3, 0, 0))), (1, .ref (ad (7, j1, 0))), (2, .int x2_29)]) [1, 2, 0] rfl ?_
        exact ih2 x2_29 τ28 (Nat.lt_of_lt_of_le hJ.2 (Nat.le_of_lt_succ hμ2)) hJ.1
  exact L2 _ 0 σ (Nat.lt_succ_self _) hI2
