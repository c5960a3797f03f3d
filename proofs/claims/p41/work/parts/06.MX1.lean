set_option maxHeartbeats 4000000 in
set_option maxRecDepth 100000 in
theorem M_X1_isPossible (l : Launch) (D : va_G) (tc : Nat → ClassId) (ad : Oid → Nat) (A : Nat → Prop) (j1 : Nat) (hj1 : j1 < 4) {σ : Mem} {Qr : Int32 → Mem → Prop} (hJ : J_X1_isPossible j1 σ Qr) : Met l yX1_isPossible wsX1_isPossible ({ frames := 0, cells := 0, slots := 0, locals := 0 }) (va_Pc [.ref (ad (3, 0, 0)), .ref (ad (7, j1, 0))] (WdI D vwCl (tysX tc) idsX ad (ceX tc ad) A σ)) (va_Qi (fun (r : Int32) (u : Mem) => Qr r u) (WdO D vwCl idsX ad (ceX tc ad) A) A) 0 0 A := by
  refine V_meti (cc := cX1_isPossible) (nL := 3) (ret := (some .boolean)) (own := RX1) rfl (plainFor_of_name (by decide)) rfl rfl (Nat.le_of_ble_eq_true rfl) ?_
  intro p e s m below meth c C hr hlocks
  refine V_sub (lv' := [(0, .ref (ad (3, 0, 0))), (1, .ref (ad (7, j1, 0)))]) [0, 1] rfl ?_
  have f18 : Cond.fieldLink RX1 18 (TX1 2).1 (TX1 2).2.1 (TX1 2).2.2.1 ∈ wsX1_isPossible := List.mem_of_getElem? (i := 1) rfl
  have uX1 : ∀ w ∈ u_ws RX1 TX1 6, w ∈ wsX1_isPossible := by decide +kernel
  have f33 : Cond.fieldLink RX1 33 (TX1 5).1 (TX1 5).2.1 (TX1 5).2.2.1 ∈ wsX1_isPossible := List.mem_of_getElem? (i := 2) rfl
  have f77 : Cond.fieldLink RX1 77 (TX2 5).1 (TX2 5).2.1 (TX2 5).2.2.1 ∈ wsX1_isPossible := List.mem_of_getElem? (i := 3) rfl
  have uX2 : ∀ w ∈ u_ws RX2 TX2 10, w ∈ wsX1_isPossible := by decide +kernel
  have f80 : Cond.fieldLink RX1 80 (TX2 0).1 (TX2 0).2.1 (TX2 0).2.2.1 ∈ wsX1_isPossible := List.mem_of_getElem? (i := 4) rfl
  have f83 : Cond.fieldLink RX1 83 (TX0 1).1 (TX0 1).2.1 (TX0 1).2.2.1 ∈ wsX1_isPossible := List.mem_of_getElem? (i := 5) rfl
  have uX0 : ∀ w ∈ u_ws RX0 TX0 3, w ∈ wsX1_isPossible := by decide +kernel
  unfold J_X1_isPossible at hJ
  refine V_aload_n C dX1_isPossible_0 0 rfl ?_
  refine V_get (ci := 1) C okX_3_0 uX1 rfl 2 (Nat.le_of_ble_eq_true rfl) rfl rfl f18 dX1_isPossible_1 ?_
  refine V_iconst (v := 0) C dX1_isPossible_4 ci_0 ?_
  refine V_iald C okX_15_0 0 rfl rfl ix_0 vpc_0_10 dX1_isPossible_5 ?_
  refine V_aload_n C dX1_isPossible_6 0 rfl ?_
  refine V_get (ci := 1) C okX_3_0 uX1 rfl 5 (Nat.le_of_ble_eq_true rfl) rfl rfl f33 dX1_isPossible_7 ?_
  obtain ⟨hJt, hJf⟩ := hJ
  refine V_icmp_le C (tgt := 15) dX1_isPossible_10 rfl (fun hc1 => ?_) (fun hc1 => ?_)
  · have hJ := hJt hc1; clear hJt hJf
    refine V_iconst (v := 0) C dX1_isPossible_15 ci_0 ?_
    refine V_istore_n (lv' := [(2, .int 0), (0, .ref (ad (3, 0, 0))), (1, .ref (ad (7, j1, 0)))]) C dX1_isPossible_16 (by decide) rfl ?_
    refine V_sub (lv' := [(0, .ref (ad (3, 0, 0))), (1, .ref (ad (7, j1, 0))), (2, .int 0)]) [1, 2, 0] rfl ?_
    obtain ⟨I17, μ17, hI17, hst17⟩ := hJ
    have L17 : ∀ (n : Nat) (x2_2 : Int32), μ17 x2_2 < n → I17 x2_2 → VV p l e (headSpec wsX1_isPossible ({ frames := 0, cells := 0, slots := 0, locals := 0 })).room s m ([.ref (ad (3, 0, 0)), .ref (ad (7, j1, 0))] : List Value).toArray below meth c D vwCl idsX ad (ceX tc ad) A (MQ below (va_Qi (fun (r : Int32) (u : Mem) => Qr r u) (WdO D vwCl idsX ad (ceX tc ad) A) A) ([.ref (ad (3, 0, 0)), .ref (ad (7, j1, 0))] : List Value).toArray s 0 0 A) 3 (0, 0) 17 [(0, .ref (ad (3, 0, 0))), (1, .ref (ad (7, j1, 0))), (2, .int x2_2)] [] σ := by
      intro n
      induction n with
      | zero => intro x2_2 hμ _; exact absurd hμ (Nat.not_lt_zero _)
      | succ n ihn =>
        intro x2_2 hμ17 hJ
        have ih17 := ihn
        replace hJ := hst17 x2_2 hJ
        refine V_iload_n C dX1_isPossible_17 2 rfl ?_
        refine V_aload_n C dX1_isPossible_18 1 rfl ?_
        refine V_get (ci := 2) C (ok7 hj1) uX2 rfl 5 (Nat.le_of_ble_eq_true rfl) rfl rfl f77 dX1_isPossible_19 ?_
        obtain ⟨hJt, hJf⟩ := hJ
        refine V_icmp_ge C (tgt := 51) dX1_isPossible_22 rfl (fun hc3 => ?_) (fun hc3 => ?_)
        · have hJ := hJt hc3; clear hJt hJf
          refine V_iconst (v := 1) C dX1_isPossible_51 ci_1 ?_
          exact V_zret C hr hlocks (Or.inr rfl) dX1_isPossible_52 hJ
        · have hJ := hJf hc3; clear hJt hJf
          refine V_aload_n C dX1_isPossible_25 0 rfl ?_
          refine V_get (ci := 1) C okX_3_0 uX1 rfl 2 (Nat.le_of_ble_eq_true rfl) rfl rfl f18 dX1_isPossible_26 ?_
          refine V_iload_n C dX1_isPossible_29 2 rfl ?_
          obtain ⟨hv4, hJ⟩ := hJ
          refine V_iald C okX_15_0 0 rfl rfl rfl hv4 dX1_isPossible_30 ?_
          refine V_aload_n C dX1_isPossible_31 1 rfl ?_
          refine V_get (ci := 2) C (ok7 hj1) uX2 rfl 0 (Nat.le_of_ble_eq_true rfl) rfl rfl f80 dX1_isPossible_32 ?_
          refine V_iload_n C dX1_isPossible_35 2 rfl ?_
          obtain ⟨hv5, hJ⟩ := hJ
          refine V_aald (o' := (13, j1, x2_2.toNatClampNeg)) C (ok8 hj1) 3 rfl rfl hv5 rfl dX1_isPossible_36 ?_
          refine V_get (ci := 0) C (ok13 hj1 (vp_lt hv5)) uX0 rfl 1 (Nat.le_of_ble_eq_true rfl) rfl rfl f83 dX1_isPossible_37 ?_
          obtain ⟨hJt, hJf⟩ := hJ
          refine V_icmp_le C (tgt := 45) dX1_isPossible_40 rfl (fun hc6 => ?_) (fun hc6 => ?_)
          · have hJ := hJt hc6; clear hJt hJf
            obtain ⟨x2_7, hx2_7⟩ : ∃ y : Int32, y = x2_2 + 1 := ⟨_, rfl⟩
            replace hJ := hJ x2_7 hx2_7
            refine V_iinc (v := x2_7) (lv' := [(2, .int x2_7), (0, .ref (ad (3, 0, 0))), (1, .ref (ad (7, j1, 0)))]) C dX1_isPossible_45 2 rfl (by rw [hx2_7]; exact congrArg _ ci_1) (by decide) rfl ?_
            refine V_goto C (tgt := 17) dX1_isPossible_48 rfl ?_
            refine V_sub (lv' := [(0, .ref (ad (3, 0, 0))), (1, .ref (ad (7, j1, 0))), (2, .int x2_7)]) [1, 2, 0] rfl ?_
            exact ih17 x2_7 (Nat.lt_of_lt_of_le hJ.2 (Nat.le_of_lt_succ hμ17)) hJ.1
          · have hJ := hJf hc6; clear hJt hJf
            refine V_iconst (v := 0) C dX1_isPossible_43 ci_0 ?_
            exact V_zret C hr hlocks (Or.inl rfl) dX1_isPossible_44 hJ
    exact L17 _ 0 (Nat.lt_succ_self _) hI17
  · have hJ := hJf hc1; clear hJt hJf
    refine V_iconst (v := 0) C dX1_isPossible_13 ci_0 ?_
    exact V_zret C hr hlocks (Or.inl rfl) dX1_isPossible_14 hJ
set_option maxHeartbeats 4000000 in
set_option maxRecDepth 100000 in
theorem M_X1_giveGreatestShares (l : Launch) (D : va_G) (tc : Nat → ClassId) (ad : Oid → Nat) (A : Nat → Prop) (j1 : Nat) (hj1 : j1 < 4) {σ : Mem} {Qr : Mem → Prop} (hJ : J_X1_giveGreatestShares j1 σ Qr) : Met l yX1_giveGreatestShares wsX1_giveGreatestShares ({ frames := 2, cells := 0, slots := 0, locals := 44 }) (va_Pc [.ref (ad (3, 0, 0)), .ref (ad (7, j1, 0))] (WdI D vwCl (tysX tc) idsX ad (ceX tc ad) A σ)) (va_Qv (fun (u : Mem) => Qr u) (WdO D vwCl idsX ad (ceX tc ad) A) A) 0 0 A := by
  refine V_metv (cc := cX1_giveGreatestShares) (nL := 4) (ret := none) (own := RX1) rfl (plainFor_of_name (by decide)) rfl rfl (Nat.le_of_ble_eq_true rfl) ?_
  intro p e s m below meth c C hr hlocks
  refine V_sub (lv' := [(0, .ref (ad (3, 0, 0))), (1, .ref (ad (7, j1, 0)))]) [0, 1] rfl ?_
  unfold J_X1_giveGreatestShares at hJ
  refine V_iconst (v := 0) C dX1_giveGreatestShares_0 ci_0 ?_
  refine V_istore_n (lv' := [(2, .int 0), (0, .ref (ad (3, 0, 0))), (1, .ref (ad (7, j1, 0)))]) C dX1_giveGreatestShares_1 (by decide) rfl ?_
  refine V_bipush (v := 64) C dX1_giveGreatestShares_2 cb_64 ?_
  refine V_istore_n (lv' := [(3, .int 64), (2, .int 0), (0, .ref (ad (3, 0, 0))), (1, .ref (ad (7, j1, 0)))]) C dX1_giveGreatestShares_4 (by decide) rfl ?_
  refine V_sub (lv' := [(0, .ref (ad (3, 0, 0))), (1, .ref (ad (7, j1, 0))), (2, .int 0), (3, .int 64)]) [2, 3, 1, 0] rfl ?_
  obtain ⟨I5, μ5, hI5, hst5⟩ := hJ
  have L5 : ∀ (n : Nat) (x2_1 : Int32) (x3_1 : Int32) (τ1 : Mem), μ5 x2_1 x3_1 τ1 < n → I5 x2_1 x3_1 τ1 → VV p l e (headSpec wsX1_giveGreatestShares ({ frames := 2, cells := 0, slots := 0, locals := 44 })).room s m ([.ref (ad (3, 0, 0)), .ref (ad (7, j1, 0))] : List Value).toArray below meth c D vwCl idsX ad (ceX tc ad) A (MQ below (va_Qv (fun (u : Mem) => Qr u) (WdO D vwCl idsX ad (ceX tc ad) A) A) ([.ref (ad (3, 0, 0)), .ref (ad (7, j1, 0))] : List Value).toArray s 0 0 A) 4 (0, 0) 5 [(0, .ref (ad (3, 0, 0))), (1, .ref (ad (7, j1, 0))), (2, .int x2_1), (3, .int x3_1)] [] τ1 := by
    intro n
    induction n with
    | zero => intro x2_1 x3_1 τ1 hμ _; exact absurd hμ (Nat.not_lt_zero _)
    | succ n ihn =>
      intro x2_1 x3_1 τ1 hμ5 hJ
      have ih5 := ihn
      replace hJ := hst5 x2_1 x3_1 τ1 hJ
      refine V_iload_n C dX1_giveGreatestShares_5 3 rfl ?_
      obtain ⟨hJt, hJf⟩ := hJ
      refine V_if_le C (tgt := 49) dX1_giveGreatestShares_6 rfl (fun hc2 => ?_) (fun hc2 => ?_)
      · have hJ := hJt hc2; clear hJt hJf
        refine V_aload_n C dX1_giveGreatestShares_49 0 rfl ?_
        refine V_aload_n C dX1_giveGreatestShares_50 1 rfl ?_
        refine V_iload_n C dX1_giveGreatestShares_51 2 rfl ?_
        refine V_cVv (st := []) (ci := 1) C okX_3_0 ⟨Nat.zero_le _, Nat.zero_le _⟩ (M_X1_giveShares l D tc ad A j1 hj1 x2_1 hJ) (cwV 2 C.1.2.2.2.2 gX1_giveGreatestShares_X1_giveShares rfl rfl rfl (by decide +kernel) ⟨Nat.le_of_ble_eq_true rfl, Nat.le_of_ble_eq_true rfl⟩) rfl rfl rfl rfl (Nat.le_of_ble_eq_true rfl) dX1_giveGreatestShares_52 (fun τ3 hJ => ?_)
        exact V_vret C hr hlocks dX1_giveGreatestShares_55 hJ
      · have hJ := hJf hc2; clear hJt hJf
        refine V_iload_n C dX1_giveGreatestShares_9 2 rfl ?_
        refine V_iload_n C dX1_giveGreatestShares_10 3 rfl ?_
        refine V_iadd C dX1_giveGreatestShares_11 ?_
        refine V_bipush (v := 100) C dX1_giveGreatestShares_12 cb_100 ?_
        obtain ⟨hJt, hJf⟩ := hJ
        refine V_icmp_gt C (tgt := 42) dX1_giveGreatestShares_14 rfl (fun hc4 => ?_) (fun hc4 => ?_)
        · have hJ := hJt hc4; clear hJt hJf
          refine V_iload_n C dX1_giveGreatestShares_42 3 rfl ?_
          refine V_iconst (v := 2) C dX1_giveGreatestShares_43 ci_2 ?_
          refine V_idiv C dX1_giveGreatestShares_44 (by decide) ?_
          refine V_topi (fun x3_5 hx3_5 => ?_)
          replace hJ := hJ x3_5 hx3_5
          refine V_istore_n (lv' := [(3, .int x3_5), (0, .ref (ad (3, 0, 0))), (1, .ref (ad (7, j1, 0))), (2, .int x2_1)]) C dX1_giveGreatestShares_45 (by decide) rfl ?_
          refine V_goto C (tgt := 5) dX1_giveGreatestShares_46 rfl ?_
          refine V_sub (lv' := [(0, .ref (ad (3, 0, 0))), (1, .ref (ad (7, j1, 0))), (2, .int x2_1), (3, .int x3_5)]) [1, 2, 3, 0] rfl ?_
          exact ih5 x2_1 x3_5 τ1 (Nat.lt_of_lt_of_le hJ.2 (Nat.le_of_lt_succ hμ5)) hJ.1
        · have hJ := hJf hc4; clear hJt hJf
          refine V_aload_n C dX1_giveGreatestShares_17 0 rfl ?_
          refine V_aload_n C dX1_giveGreatestShares_18 1 rfl ?_
          refine V_iload_n C dX1_giveGreatestShares_19 2 rfl ?_
          refine V_iload_n C dX1_giveGreatestShares_20 3 rfl ?_
          refine V_iadd C dX1_giveGreatestShares_21 ?_
          refine V_cVv (st := []) (ci := 1) C okX_3_0 ⟨Nat.zero_le _, Nat.zero_le _⟩ (M_X1_giveShares l D tc ad A j1 hj1 (x2_1 + x3_1) hJ) (cwV 2 C.1.2.2.2.2 gX1_giveGreatestShares_X1_giveShares rfl rfl rfl (by decide +kernel) ⟨Nat.le_of_ble_eq_true rfl, Nat.le_of_ble_eq_true rfl⟩) rfl rfl rfl rfl (Nat.le_of_ble_eq_true rfl) dX1_giveGreatestShares_22 (fun τ6 hJ => ?_)
          refine V_aload_n C dX1_giveGreatestShares_25 0 rfl ?_
          refine V_aload_n C dX1_giveGreatestShares_26 1 rfl ?_
          refine V_cVv (st := []) (ci := 1) C okX_3_0 ⟨Nat.zero_le _, Nat.zero_le _⟩ (M_X1_spread l D tc ad A j1 hj1 hJ) (cwV 1 C.1.2.2.2.2 gX1_giveGreatestShares_X1_spread rfl rfl rfl (by decide +kernel) ⟨Nat.le_of_ble_eq_true rfl, Nat.le_of_ble_eq_true rfl⟩) rfl rfl rfl rfl (Nat.le_of_ble_eq_true rfl) dX1_giveGreatestShares_27 (fun τ7 hJ => ?_)
          refine V_aload_n C dX1_giveGreatestShares_30 0 rfl ?_
          refine V_aload_n C dX1_giveGreatestShares_31 1 rfl ?_
          refine V_cVi (st := []) (ci := 1) C okX_3_0 ⟨Nat.zero_le _, Nat.zero_le _⟩ (M_X1_isPossible l D tc ad A j1 hj1 hJ) (cwV 1 C.1.2.2.2.2 gX1_giveGreatestShares_X1_isPossible rfl rfl rfl (by decide +kernel) ⟨Nat.le_of_ble_eq_true rfl, Nat.le_of_ble_eq_true rfl⟩) rfl rfl rfl rfl (Nat.le_of_ble_eq_true rfl) dX1_giveGreatestShares_32 (fun r8 τ8 hJ => ?_)
          obtain ⟨hJt, hJf⟩ := hJ
          refine V_if_eq C (tgt := 42) dX1_giveGreatestShares_35 rfl (fun hc9 => ?_) (fun hc9 => ?_)
          · have hJ := hJt hc9; clear hJt hJf
            refine V_iload_n C dX1_giveGreatestShares_42 3 rfl ?_
            refine V_iconst (v := 2) C dX1_giveGreatestShares_43 ci_2 ?_
            refine V_idiv C dX1_giveGreatestShares_44 (by decide) ?_
            refine V_topi (fun x3_10 hx3_10 => ?_)
            replace hJ := hJ x3_10 hx3_10
            refine V_istore_n (lv' := [(3, .int x3_10), (0, .ref (ad (3, 0, 0))), (1, .ref (ad (7, j1, 0))), (2, .int x2_1)]) C dX1_giveGreatestShares_45 (by decide) rfl ?_
            refine V_goto C (tgt := 5) dX1_giveGreatestShares_46 rfl ?_
            refine V_sub (lv' := [(0, .ref (ad (3, 0, 0))), (1, .ref (ad (7, j1, 0))), (2, .int x2_1), (3, .int x3_10)]) [1, 2, 3, 0] rfl ?_
            exact ih5 x2_1 x3_10 τ8 (Nat.lt_of_lt_of_le hJ.2 (Nat.le_of_lt_succ hμ5)) hJ.1
          · have hJ := hJf hc9; clear hJt hJf
            refine V_iload_n C dX1_giveGreatestShares_38 2 rfl ?_
            refine V_iload_n C dX1_giveGreatestShares_39 3 rfl ?_
            refine V_iadd C dX1_giveGreatestShares_40 ?_
            refine V_topi (fun x2_11 hx2_11 => ?_)
            replace hJ := hJ x2_11 hx2_11
            refine V_istore_n (lv' := [(2, .int x2_11), (0, .ref (ad (3, 0, 0))), (1, .ref (ad (7, j1, 0))), (3, .int x3_1)]) C dX1_giveGreatestShares_41 (by decide) rfl ?_
            refine V_iload_n C dX1_giveGreatestShares_42 3 rfl ?_
            refine V_iconst (v := 2) C dX1_giveGreatestShares_43 ci_2 ?_
            refine V_idiv C dX1_giveGreatestShares_44 (by decide) ?_
            refine V_topi (fun x3_12 hx3_12 => ?_)
            replace hJ := hJ x3_12 hx3_12
            refine V_istore_n (lv' := [(3, .int x3_12), (2, .int x2_11), (0, .ref (ad (3, 0, 0))), (1, .ref (ad (7, j1, 0)))]) C dX1_giveGreatestShares_45 (by decide) rfl ?_
            refine V_goto C (tgt := 5) dX1_giveGreatestShares_46 rfl ?_
            refine V_sub (lv' := [(0, .ref (ad (3, 0, 0))), (1, .ref (ad (7, j1, 0))), (2, .int x2_11), (3, .int x3_12)]) [2, 3, 1, 0] rfl ?_
            exact ih5 x2_11 x3_12 τ8 (Nat.lt_of_lt_of_le hJ.2 (Nat.le_of_lt_succ hμ5)) hJ.1
  exact L5 _ 0 64 σ (Nat.lt_succ_self _) hI5
set_option maxHeartbeats 4000000 in
set_option maxRecDepth 100000 in
theorem M_X0_passedOf (l : Launch) (D : va_G) (tc : Nat → ClassId) (ad : Oid → Nat) (A : Nat → Prop) (j0 : Nat) (i0 : Nat) (hj0 : j0 < 4) (hi0 : i0 < 10) (x1 : Int32) {σ : Mem} {Qr : Int32 → Mem → Prop} (hJ : J_X0_passedOf j0 i0 x1 σ Qr) : Met l yX0_passedOf wsX0_passedOf ({ frames := 0, cells := 0, slots := 0, locals := 0 }) (va_Pc [.ref (ad (13, j0, i0)), .int x1] (WdI D vwCl (tysX tc) idsX ad (ceX tc ad) A σ)) (va_Qi (fun (r : Int32) (u : Mem) => Qr r u) (WdO D vwCl idsX ad (ceX tc ad) A) A) 0 0 A := by
  refine V_meti (cc := cX0_passedOf) (nL := 2) (ret := (some .int)) (own := RX0) rfl (plainFor_of_name (by decide)) rfl rfl (Nat.le_of_ble_eq_true rfl) ?_
  intro p e s m below meth c C hr hlocks
  refine V_sub (lv' := [(0, .ref (ad (13, j0, i0))), (1, .int x1)]) [0, 1] rfl ?_
  have f16 : Cond.fieldLink RX0 16 (TX0 2).1 (TX0 2).2.1 (TX0 2).2.2.1 ∈ wsX0_passedOf := List.mem_of_getElem? (i := 1) rfl
  have uX0 : ∀ w ∈ u_ws RX0 TX0 3, w ∈ wsX0_passedOf := by decide +kernel
  unfold J_X0_passedOf at hJ
  refine V_iload_n C dX0_passedOf_0 1 rfl ?_
  refine V_iload_n C dX0_passedOf_1 1 rfl ?_
  refine V_aload_n C dX0_passedOf_2 0 rfl ?_
  refine V_get (ci := 0) C (ok13 hj0 hi0) uX0 rfl 2 (Nat.le_of_ble_eq_true rfl) rfl rfl f16 dX0_passedOf_3 ?_
  refine V_imul C dX0_passedOf_6 ?_
  refine V_bipush (v := 99) C dX0_passedOf_7 cb_99 ?_
  refine V_iadd C dX0_passedOf_9 ?_
  refine V_bipush (v := 100) C dX0_passedOf_10 cb_100 ?_
  refine V_idiv C dX0_passedOf_12 (by decide) ?_
  refine V_isub C dX0_passedOf_13 ?_
  exact V_iret C hr hlocks dX0_passedOf_14 hJ
set_option maxHeartbeats 4000000 in
set_option maxRecDepth 100000 in
theorem M_X1_mostFor (l : Launch) (D : va_G) (tc : Nat → ClassId) (ad : Oid → Nat) (A : Nat → Prop) (j1 : Nat) (hj1 : j1 < 4) (x2 : Int32) {σ : Mem} {Qr : Int32 → Mem → Prop} (hJ : J_X1_mostFor j1 x2 σ Qr) : Met l yX1_mostFor wsX1_mostFor ({ frames := 1, cells := 0, slots := 0, locals := 21 }) (va_Pc [.ref (ad (3, 0, 0)), .ref (ad (7, j1, 0)), .int x2] (WdI D vwCl (tysX tc) idsX ad (ceX tc ad) A σ)) (va_Qi (fun (r : Int32) (u : Mem) => Qr r u) (WdO D vwCl idsX ad (ceX tc ad) A) A) 0 0 A := by
  refine V_meti (cc := cX1_mostFor) (nL := 6) (ret := (some .int)) (own := RX1) rfl (plainFor_of_name (by decide)) rfl rfl (Nat.le_of_ble_eq_true rfl) ?_
  intro p e s m below meth c C hr hlocks
  refine V_sub (lv' := [(0, .ref (ad (3, 0, 0))), (1, .ref (ad (7, j1, 0))), (2, .int x2)]) [0, 1, 2] rfl ?_
  have f24 : Cond.fieldLink RX1 24 (TX1 4).1 (TX1 4).2.1 (TX1 4).2.2.1 ∈ wsX1_mostFor := List.mem_of_getElem? (i := 1) rfl
  have uX1 : ∀ w ∈ u_ws RX1 TX1 6, w ∈ wsX1_mostFor := by decide +kernel
  have f80 : Cond.fieldLink RX1 80 (TX2 0).1 (TX2 0).2.1 (TX2 0).2.2.1 ∈ wsX1_mostFor := List.mem_of_getElem? (i := 2) rfl
  have uX2 : ∀ w ∈ u_ws RX2 TX2 10, w ∈ wsX1_mostFor := by decide +kernel
  have f83 : Cond.fieldLink RX1 83 (TX0 1).1 (TX0 1).2.1 (TX0 1).2.2.1 ∈ wsX1_mostFor := List.mem_of_getElem? (i := 3) rfl
  have uX0 : ∀ w ∈ u_ws RX0 TX0 3, w ∈ wsX1_mostFor := by decide +kernel
  have f33 : Cond.fieldLink RX1 33 (TX1 5).1 (TX1 5).2.1 (TX1 5).2.2.1 ∈ wsX1_mostFor := List.mem_of_getElem? (i := 4) rfl
  have f77 : Cond.fieldLink RX1 77 (TX2 5).1 (TX2 5).2.1 (TX2 5).2.2.1 ∈ wsX1_mostFor := List.mem_of_getElem? (i := 9) rfl
  have f68 : Cond.fieldLink RX1 68 (TX2 1).1 (TX2 1).2.1 (TX2 1).2.2.1 ∈ wsX1_mostFor := List.mem_of_getElem? (i := 13) rfl
  have f72 : Cond.fieldLink RX1 72 (TX4 0).1 (TX4 0).2.1 (TX4 0).2.2.1 ∈ wsX1_mostFor := List.mem_of_getElem? (i := 14) rfl
  have uX4 : ∀ w ∈ u_ws RX4 TX4 12, w ∈ wsX1_mostFor := by decide +kernel
  have f21 : Cond.fieldLink RX1 21 (TX1 3).1 (TX1 3).2.1 (TX1 3).2.2.1 ∈ wsX1_mostFor := List.mem_of_getElem? (i := 11) rfl
  have f15 : Cond.fieldLink RX1 15 (TX1 1).1 (TX1 1).2.1 (TX1 1).2.2.1 ∈ wsX1_mostFor := List.mem_of_getElem? (i := 15) rfl
  have f88 : Cond.fieldLink RX1 88 (TX0 0).1 (TX0 0).2.1 (TX0 0).2.2.1 ∈ wsX1_mostFor := List.mem_of_getElem? (i := 10) rfl
  have f18 : Cond.fieldLink RX1 18 (TX1 2).1 (TX1 2).2.1 (TX1 2).2.2.1 ∈ wsX1_mostFor := List.mem_of_getElem? (i := 12) rfl
  unfold J_X1_mostFor at hJ
  refine V_aload_n C dX1_mostFor_0 0 rfl ?_
  refine V_get (ci := 1) C okX_3_0 uX1 rfl 4 (Nat.le_of_ble_eq_true rfl) rfl rfl f24 dX1_mostFor_1 ?_
  refine V_iconst (v := 0) C dX1_mostFor_4 ci_0 ?_
  refine V_aload_n C dX1_mostFor_5 1 rfl ?_
  refine V_get (ci := 2) C (ok7 hj1) uX2 rfl 0 (Nat.le_of_ble_eq_true rfl) rfl rfl f80 dX1_mostFor_6 ?_
  refine V_iconst (v := 0) C dX1_mostFor_9 ci_0 ?_
  refine V_aald (o' := (13, j1, 0)) C (ok8 hj1) 3 rfl rfl vpc_0_10 (by rw [ix_0]) dX1_mostFor_10 ?_
  refine V_get (ci := 0) C (ok13 hj1 (by decide)) uX0 rfl 1 (Nat.le_of_ble_eq_true rfl) rfl rfl f83 dX1_mostFor_11 ?_
  refine V_aload_n C dX1_mostFor_14 0 rfl ?_
  refine V_get (ci := 1) C okX_3_0 uX1 rfl 5 (Nat.le_of_ble_eq_true rfl) rfl rfl f33 dX1_mostFor_15 ?_
  refine V_mmin C ⟨Nat.zero_le _, Nat.zero_le _⟩ (List.mem_of_getElem? (i := 5) rfl) (List.mem_of_getElem? (i := 6) rfl) (List.mem_of_getElem? (i := 7) rfl) (List.mem_of_getElem? (i := 8) rfl) (Nat.le_of_ble_eq_true rfl) (Nat.le_of_ble_eq_true rfl) dX1_mostFor_18 ?_
  refine V_iast C okX_15_2 0 rfl (fun _ => rfl) ix_0 vpc_0_10 dX1_mostFor_21 (fun τ1 hτ1 => ?_)
  replace hJ := hJ τ1 hτ1
  refine V_iconst (v := 1) C dX1_mostFor_22 ci_1 ?_
  refine V_istore_n (lv' := [(3, .int 1), (0, .ref (ad (3, 0, 0))), (1, .ref (ad (7, j1, 0))), (2, .int x2)]) C dX1_mostFor_23 (by decide) rfl ?_
  refine V_sub (lv' := [(0, .ref (ad (3, 0, 0))), (1, .ref (ad (7, j1, 0))), (2, .int x2), (3, .int 1)]) [1, 2, 3, 0] rfl ?_
  obtain ⟨I24, μ24, hI24, hst24⟩ := hJ
  have L24 : ∀ (n : Nat) (x3_2 : Int32) (τ2 : Mem), μ24 x3_2 τ2 < n → I24 x3_2 τ2 → VV p l e (headSpec wsX1_mostFor ({ frames := 1, cells := 0, slots := 0, locals := 21 })).room s m ([.ref (ad (3, 0, 0)), .ref (ad (7, j1, 0)), .int x2] : List Value).toArray below meth c D vwCl idsX ad (ceX tc ad) A (MQ below (va_Qi (fun (r : Int32) (u : Mem) => Qr r u) (WdO D vwCl idsX ad (ceX tc ad) A) A) ([.ref (ad (3, 0, 0)), .ref (ad (7, j1, 0)), .int x2] : List Value).toArray s 0 0 A) 6 (0, 0) 24 [(0, .ref (ad (3, 0, 0))), (1, .ref (ad (7, j1, 0))), (2, .int x2), (3, .int x3_2)] [] τ2 := by
    intro n
    induction n with
    | zero => intro x3_2 τ2 hμ _; exact absurd hμ (Nat.not_lt_zero _)
    | succ n ihn =>
      intro x3_2 τ2 hμ24 hJ
      have ih24 := ihn
      replace hJ := hst24 x3_2 τ2 hJ
      refine V_iload_n C dX1_mostFor_24 3 rfl ?_
      refine V_aload_n C dX1_mostFor_25 1 rfl ?_
      refine V_get (ci := 2) C (ok7 hj1) uX2 rfl 5 (Nat.le_of_ble_eq_true rfl) rfl rfl f77 dX1_mostFor_26 ?_
      obtain ⟨hJt, hJf⟩ := hJ
      refine V_icmp_ge C (tgt := 103) dX1_mostFor_29 rfl (fun hc3 => ?_) (fun hc3 => ?_)
      · have hJ := hJt hc3; clear hJt hJf
        refine V_aload_n C dX1_mostFor_103 1 rfl ?_
        refine V_get (ci := 2) C (ok7 hj1) uX2 rfl 1 (Nat.le_of_ble_eq_true rfl) rfl rfl f68 dX1_mostFor_104 ?_
        refine V_iload_n C dX1_mostFor_107 2 rfl ?_
        obtain ⟨hv4, hJ⟩ := hJ
        refine V_aald (o' := (14, j1, x2.toNatClampNeg)) C (ok9 hj1) 4 rfl rfl hv4 rfl dX1_mostFor_108 ?_
        refine V_get (ci := 4) C (ok14 hj1 (vp_lt hv4)) uX4 rfl 0 (Nat.le_of_ble_eq_true rfl) rfl rfl f72 dX1_mostFor_109 ?_
        refine V_topi (fun x3_5 hx3_5 => ?_)
        replace hJ := hJ x3_5 hx3_5
        refine V_istore_n (lv' := [(3, .int x3_5), (0, .ref (ad (3, 0, 0))), (1, .ref (ad (7, j1, 0))), (2, .int x2)]) C dX1_mostFor_112 (by decide) rfl ?_
        refine V_aload_n C dX1_mostFor_113 2 rfl ?_
        refine V_get (ci := 2) C (ok7 hj1) uX2 rfl 0 (Nat.le_of_ble_eq_true rfl) rfl rfl f80 dX1_mostFor_114 ?_
        refine V_iload_n C dX1_mostFor_117 0 rfl ?_
        obtain ⟨hv6, hJ⟩ := hJ
        refine V_aald (o' := (13, j1, x3_5.toNatClampNeg)) C (ok8 hj1) 3 rfl rfl hv6 rfl dX1_mostFor_118 ?_
        refine V_aload_n C dX1_mostFor_119 1 rfl ?_
        refine V_get (ci := 1) C okX_3_0 uX1 rfl 4 (Nat.le_of_ble_eq_true rfl) rfl rfl f24 dX1_mostFor_120 ?_
        refine V_iload_n C dX1_mostFor_123 0 rfl ?_
        obtain ⟨hv7, hJ⟩ := hJ
        refine V_iald C okX_15_2 0 rfl rfl rfl hv7 dX1_mostFor_124 ?_
        refine V_cVi (st := []) (ci := 0) C (ok13 hj1 (vp_lt hv6)) ⟨Nat.zero_le _, Nat.zero_le _⟩ (M_X0_passedOf l D tc ad A j1 x3_5.toNatClampNeg hj1 (vp_lt hv6) (τ2 (15, 2, 0) x3_5.toNatClampNeg) hJ) (cwV 1 C.1.2.2.2.2 gX1_mostFor_X0_passedOf rfl rfl rfl (by decide +kernel) ⟨Nat.le_of_ble_eq_true rfl, Nat.le_of_ble_eq_true rfl⟩) rfl rfl rfl rfl (Nat.le_of_ble_eq_true rfl) dX1_mostFor_125 (fun r8 τ8 hJ => ?_)
        refine V_aload_n C dX1_mostFor_128 1 rfl ?_
        refine V_get (ci := 1) C okX_3_0 uX1 rfl 3 (Nat.le_of_ble_eq_true rfl) rfl rfl f21 dX1_mostFor_129 ?_
        refine V_iload_n C dX1_mostFor_132 0 rfl ?_
        obtain ⟨hv9, hJ⟩ := hJ
        refine V_iald C okX_15_1 0 rfl rfl rfl hv9 dX1_mostFor_133 ?_
        refine V_aload_n C dX1_mostFor_134 1 rfl ?_
        refine V_get (ci := 1) C okX_3_0 uX1 rfl 1 (Nat.le_of_ble_eq_true rfl) rfl rfl f15 dX1_mostFor_135 ?_
        refine V_iload_n C dX1_mostFor_138 3 rfl ?_
        obtain ⟨hv10, hJ⟩ := hJ
        refine V_iald C okX_4_1 0 rfl rfl rfl hv10 dX1_mostFor_139 ?_
        refine V_isub C dX1_mostFor_140 ?_
        refine V_isub C dX1_mostFor_141 ?_
        exact V_iret C hr hlocks dX1_mostFor_142 hJ
      · have hJ := hJf hc3; clear hJt hJf
        refine V_aload_n C dX1_mostFor_32 1 rfl ?_
        refine V_get (ci := 2) C (ok7 hj1) uX2 rfl 0 (Nat.le_of_ble_eq_true rfl) rfl rfl f80 dX1_mostFor_33 ?_
        refine V_iload_n C dX1_mostFor_36 3 rfl ?_
        obtain ⟨hv11, hJ⟩ := hJ
        refine V_aald (o' := (13, j1, x3_2.toNatClampNeg)) C (ok8 hj1) 3 rfl rfl hv11 rfl dX1_mostFor_37 ?_
        refine V_get (ci := 0) C (ok13 hj1 (vp_lt hv11)) uX0 rfl 0 (Nat.le_of_ble_eq_true rfl) rfl rfl f88 dX1_mostFor_38 ?_
        refine V_topi (fun x4_12 hx4_12 => ?_)
        replace hJ := hJ x4_12 hx4_12
        refine V_istore (lv' := [(4, .int x4_12), (0, .ref (ad (3, 0, 0))), (1, .ref (ad (7, j1, 0))), (2, .int x2), (3, .int x3_2)]) C dX1_mostFor_41 (by decide) rfl ?_
        refine V_aload_n C dX1_mostFor_43 2 rfl ?_
        refine V_get (ci := 2) C (ok7 hj1) uX2 rfl 0 (Nat.le_of_ble_eq_true rfl) rfl rfl f80 dX1_mostFor_44 ?_
        refine V_iload C dX1_mostFor_47 0 rfl ?_
        obtain ⟨hv13, hJ⟩ := hJ
        refine V_aald (o' := (13, j1, x4_12.toNatClampNeg)) C (ok8 hj1) 3 rfl rfl hv13 rfl dX1_mostFor_49 ?_
        refine V_aload_n C dX1_mostFor_50 1 rfl ?_
        refine V_get (ci := 1) C okX_3_0 uX1 rfl 4 (Nat.le_of_ble_eq_true rfl) rfl rfl f24 dX1_mostFor_51 ?_
        refine V_iload C dX1_mostFor_54 0 rfl ?_
        obtain ⟨hv14, hJ⟩ := hJ
        refine V_iald C okX_15_2 0 rfl rfl rfl hv14 dX1_mostFor_56 ?_
        refine V_cVi (st := []) (ci := 0) C (ok13 hj1 (vp_lt hv13)) ⟨Nat.zero_le _, Nat.zero_le _⟩ (M_X0_passedOf l D tc ad A j1 x4_12.toNatClampNeg hj1 (vp_lt hv13) (τ2 (15, 2, 0) x4_12.toNatClampNeg) hJ) (cwV 1 C.1.2.2.2.2 gX1_mostFor_X0_passedOf rfl rfl rfl (by decide +kernel) ⟨Nat.le_of_ble_eq_true rfl, Nat.le_of_ble_eq_true rfl⟩) rfl rfl rfl rfl (Nat.le_of_ble_eq_true rfl) dX1_mostFor_57 (fun r15 τ15 hJ => ?_)
        refine V_aload_n C dX1_mostFor_60 1 rfl ?_
        refine V_get (ci := 1) C okX_3_0 uX1 rfl 3 (Nat.le_of_ble_eq_true rfl) rfl rfl f21 dX1_mostFor_61 ?_
        refine V_iload C dX1_mostFor_64 0 rfl ?_
        obtain ⟨hv16, hJ⟩ := hJ
        refine V_iald C okX_15_1 0 rfl rfl rfl hv16 dX1_mostFor_66 ?_
        refine V_aload_n C dX1_mostFor_67 1 rfl ?_
        refine V_get (ci := 1) C okX_3_0 uX1 rfl 2 (Nat.le_of_ble_eq_true rfl) rfl rfl f18 dX1_mostFor_68 ?_
        refine V_iload_n C dX1_mostFor_71 4 rfl ?_
        obtain ⟨hv17, hJ⟩ := hJ
        refine V_iald C okX_15_0 0 rfl rfl rfl hv17 dX1_mostFor_72 ?_
        refine V_isub C dX1_mostFor_73 ?_
        refine V_isub C dX1_mostFor_74 ?_
        refine V_topi (fun x5_18 hx5_18 => ?_)
        replace hJ := hJ x5_18 hx5_18
        refine V_istore (lv' := [(5, .int x5_18), (4, .int x4_12), (0, .ref (ad (3, 0, 0))), (1, .ref (ad (7, j1, 0))), (2, .int x2), (3, .int x3_2)]) C dX1_mostFor_75 (by decide) rfl ?_
        refine V_aload_n C dX1_mostFor_77 2 rfl ?_
        refine V_get (ci := 1) C okX_3_0 uX1 rfl 4 (Nat.le_of_ble_eq_true rfl) rfl rfl f24 dX1_mostFor_78 ?_
        refine V_iload_n C dX1_mostFor_81 5 rfl ?_
        refine V_aload_n C dX1_mostFor_82 3 rfl ?_
        refine V_get (ci := 2) C (ok7 hj1) uX2 rfl 0 (Nat.le_of_ble_eq_true rfl) rfl rfl f80 dX1_mostFor_83 ?_
        refine V_iload_n C dX1_mostFor_86 5 rfl ?_
        obtain ⟨hv19, hJ⟩ := hJ
        refine V_aald (o' := (13, j1, x3_2.toNatClampNeg)) C (ok8 hj1) 3 rfl rfl hv19 rfl dX1_mostFor_87 ?_
        refine V_get (ci := 0) C (ok13 hj1 (vp_lt hv19)) uX0 rfl 1 (Nat.le_of_ble_eq_true rfl) rfl rfl f83 dX1_mostFor_88 ?_
        refine V_iload C dX1_mostFor_91 0 rfl ?_
        refine V_mmin C ⟨Nat.zero_le _, Nat.zero_le _⟩ (List.mem_of_getElem? (i := 5) rfl) (List.mem_of_getElem? (i := 6) rfl) (List.mem_of_getElem? (i := 7) rfl) (List.mem_of_getElem? (i := 8) rfl) (Nat.le_of_ble_eq_true rfl) (Nat.le_of_ble_eq_true rfl) dX1_mostFor_93 ?_
        obtain ⟨hv20, hJ⟩ := hJ
        refine V_iast C okX_15_2 0 rfl (fun _ => rfl) rfl hv20 dX1_mostFor_96 (fun τ21 hτ21 => ?_)
        replace hJ := hJ τ21 hτ21
        obtain ⟨x3_22, hx3_22⟩ : ∃ y : Int32, y = x3_2 + 1 := ⟨_, rfl⟩
        replace hJ := hJ x3_22 hx3_22
        refine V_iinc (v := x3_22) (lv' := [(3, .int x3_22), (5, .int x5_18), (4, .int x4_12), (0, .ref (ad (3, 0, 0))), (1, .ref (ad (7, j1, 0))), (2, .int x2)]) C dX1_mostFor_97 5 rfl (by rw [hx3_22]; exact congrArg _ ci_1) (by decide) rfl ?_
        refine V_goto C (tgt := 24) dX1_mostFor_100 rfl ?_
        refine V_sub (lv' := [(0, .ref (ad (3, 0, 0))), (1, .ref (ad (7, j1, 0))), (2, .int x2), (3, .int x3_22)]) [3, 4, 5, 0] rfl ?_
        exact ih24 x3_22 τ21 (Nat.lt_of_lt_of_le hJ.2 (Nat.le_of_lt_succ hμ24)) hJ.1
  exact L24 _ 1 τ1 (Nat.lt_succ_self _) hI24
set_option maxHeartbeats 4000000 in
set_option maxRecDepth 100000 in
theorem M_X1_serve (l : Launch) (D : va_G) (tc : Nat → ClassId) (ad : Oid → Nat) (A : Nat → Prop) (j1 : Nat) (hj1 : j1 < 4) (x2 : Int32) {σ : Mem} {Qr : Mem → Prop} (hJ : J_X1_serve j1 x2 σ Qr) : Met l yX1_serve wsX1_serve ({ frames := 2, cells := 0, slots := 0, locals := 46 }) (va_Pc [.ref (ad (3, 0, 0)), .ref (ad (7, j1, 0)), .int x2] (WdI D vwCl (tysX tc) idsX ad (ceX tc ad) A σ)) (va_Qv (fun (u : Mem) => Qr u) (WdO D vwCl idsX ad (ceX tc ad) A) A) 0 0 A := by
  refine V_metv (cc := cX1_serve) (nL := 4) (ret := none) (own := RX1) rfl (plainFor_of_name (by decide)) rfl rfl (Nat.le_of_ble_eq_true rfl) ?_
  intro p e s m below meth c C hr hlocks
  refine V_sub (lv' := [(0, .ref (ad (3, 0, 0))), (1, .ref (ad (7, j1, 0))), (2, .int x2)]) [0, 1, 2] rfl ?_
  have f9 : Cond.fieldLink RX1 9 (TX1 0).1 (TX1 0).2.1 (TX1 0).2.2.1 ∈ wsX1_serve := List.mem_of_getElem? (i := 1) rfl
  have uX1 : ∀ w ∈ u_ws RX1 TX1 6, w ∈ wsX1_serve := by decide +kernel
  have f15 : Cond.fieldLink RX1 15 (TX1 1).1 (TX1 1).2.1 (TX1 1).2.2.1 ∈ wsX1_serve := List.mem_of_getElem? (i := 6) rfl
  unfold J_X1_serve at hJ
  refine V_aload_n C dX1_serve_0 0 rfl ?_
  refine V_get (ci := 1) C okX_3_0 uX1 rfl 0 (Nat.le_of_ble_eq_true rfl) rfl rfl f9 dX1_serve_1 ?_
  refine V_iload_n C dX1_serve_4 2 rfl ?_
  obtain ⟨hv1, hJ⟩ := hJ
  refine V_iald C okX_4_0 0 rfl rfl rfl hv1 dX1_serve_5 ?_
  refine V_aload_n C dX1_serve_6 0 rfl ?_
  refine V_aload_n C dX1_serve_7 1 rfl ?_
  refine V_iload_n C dX1_serve_8 2 rfl ?_
  refine V_cVi (st := [.int (σ (4, 0, 0) x2.toNatClampNeg)]) (ci := 1) C okX_3_0 ⟨Nat.zero_le _, Nat.zero_le _⟩ (M_X1_mostFor l D tc ad A j1 hj1 x2 hJ) (cwV 2 C.1.2.2.2.2 gX1_serve_X1_mostFor rfl rfl rfl (by decide +kernel) ⟨Nat.le_of_ble_eq_true rfl, Nat.le_of_ble_eq_true rfl⟩) rfl rfl rfl rfl (Nat.le_of_ble_eq_true rfl) dX1_serve_9 (fun r2 τ2 hJ => ?_)
  refine V_mmin C ⟨Nat.zero_le _, Nat.zero_le _⟩ (List.mem_of_getElem? (i := 2) rfl) (List.mem_of_getElem? (i := 3) rfl) (List.mem_of_getElem? (i := 4) rfl) (List.mem_of_getElem? (i := 5) rfl) (Nat.le_of_ble_eq_true rfl) (Nat.le_of_ble_eq_true rfl) dX1_serve_12 ?_
  refine V_topi (fun x3_3 hx3_3 => ?_)
  replace hJ := hJ x3_3 hx3_3
  refine V_istore_n (lv' := [(3, .int x3_3), (0, .ref (ad (3, 0, 0))), (1, .ref (ad (7, j1, 0))), (2, .int x2)]) C dX1_serve_15 (by decide) rfl ?_
  refine V_iload_n C dX1_serve_16 0 rfl ?_
  refine V_aload_n C dX1_serve_17 1 rfl ?_
  refine V_get (ci := 1) C okX_3_0 uX1 rfl 1 (Nat.le_of_ble_eq_true rfl) rfl rfl f15 dX1_serve_18 ?_
  refine V_iload_n C dX1_serve_21 3 rfl ?_
  obtain ⟨hv4, hJ⟩ := hJ
  refine V_iald C okX_4_1 0 rfl rfl rfl hv4 dX1_serve_22 ?_
  obtain ⟨hJt, hJf⟩ := hJ
  refine V_icmp_le C (tgt := 38) dX1_serve_23 rfl (fun hc5 => ?_) (fun hc5 => ?_)
  · have hJ := hJt hc5; clear hJt hJf
    exact V_vret C hr hlocks dX1_serve_38 hJ
  · have hJ := hJf hc5; clear hJt hJf
    refine V_aload_n C dX1_serve_26 1 rfl ?_
    refine V_get (ci := 1) C okX_3_0 uX1 rfl 1 (Nat.le_of_ble_eq_true rfl) rfl rfl f15 dX1_serve_27 ?_
    refine V_iload_n C dX1_serve_30 3 rfl ?_
    refine V_iload_n C dX1_serve_31 0 rfl ?_
    obtain ⟨hv6, hJ⟩ := hJ
    refine V_iast C okX_4_1 0 rfl (fun _ => rfl) rfl hv6 dX1_serve_32 (fun τ7 hτ7 => ?_)
    replace hJ := hJ τ7 hτ7
    refine V_aload_n C dX1_serve_33 1 rfl ?_
    refine V_aload_n C dX1_serve_34 2 rfl ?_
    refine V_cVv (st := []) (ci := 1) C okX_3_0 ⟨Nat.zero_le _, Nat.zero_le _⟩ (M_X1_spread l D tc ad A j1 hj1 hJ) (cwV 1 C.1.2.2.2.2 gX1_serve_X1_spread rfl rfl rfl (by decide +kernel) ⟨Nat.le_of_ble_eq_true rfl, Nat.le_of_ble_eq_true rfl⟩) rfl rfl rfl rfl (Nat.le_of_ble_eq_true rfl) dX1_serve_35 (fun τ8 hJ => ?_)
    exact V_vret C hr hlocks dX1_serve_38 hJ
set_option maxHeartbeats 4000000 in
set_option maxRecDepth 100000 in
theorem M_X1_distribute (l : Launch) (D : va_G) (tc : Nat → ClassId) (ad : Oid → Nat) (A : Nat → Prop) (j1 : Nat) (hj1 : j1 < 4) {σ : Mem} {Qr : Mem → Prop} (hJ : J_X1_distribute j1 σ Qr) : Met l yX1_distribute wsX1_distribute ({ frames := 3, cells := 0, slots := 0, locals := 69 }) (va_Pc [.ref (ad (3, 0, 0)), .ref (ad (7, j1, 0))] (WdI D vwCl (tysX tc) idsX ad (ceX tc ad) A σ)) (va_Qv (fun (u : Mem) => Qr u) (WdO D vwCl idsX ad (ceX tc ad) A) A) 0 0 A := by
  refine V_metv (cc := cX1_distribute) (nL := 5) (ret := none) (own := RX1) rfl (plainFor_of_name (by decide)) rfl rfl (Nat.le_of_ble_eq_true rfl) ?_
  intro p e s m below meth c C hr hlocks
  refine V_sub (lv' := [(0, .ref (ad (3, 0, 0))), (1, .ref (ad (7, j1, 0)))]) [0, 1] rfl ?_
  have f33 : Cond.fieldLink RX1 33 (TX1 5).1 (TX1 5).2.1 (TX1 5).2.2.1 ∈ wsX1_distribute := List.mem_of_getElem? (i := 1) rfl
  have uX1 : ∀ w ∈ u_ws RX1 TX1 6, w ∈ wsX1_distribute := by decide +kernel
  have f40 : Cond.fieldLink RX1 40 (TX2 6).1 (TX2 6).2.1 (TX2 6).2.2.1 ∈ wsX1_distribute := List.mem_of_getElem? (i := 2) rfl
  have uX2 : ∀ w ∈ u_ws RX2 TX2 10, w ∈ wsX1_distribute := by decide +kernel
  have f47 : Cond.fieldLink RX1 47 (TX2 7).1 (TX2 7).2.1 (TX2 7).2.2.1 ∈ wsX1_distribute := List.mem_of_getElem? (i := 5) rfl
  have f65 : Cond.fieldLink RX1 65 (TX2 2).1 (TX2 2).2.1 (TX2 2).2.2.1 ∈ wsX1_distribute := List.mem_of_getElem? (i := 6) rfl
  have f9 : Cond.fieldLink RX1 9 (TX1 0).1 (TX1 0).2.1 (TX1 0).2.2.1 ∈ wsX1_distribute := List.mem_of_getElem? (i := 3) rfl
  have f15 : Cond.fieldLink RX1 15 (TX1 1).1 (TX1 1).2.1 (TX1 1).2.2.1 ∈ wsX1_distribute := List.mem_of_getElem? (i := 4) rfl
  have B80 : ∀ (b2 : Int32) (τ : Mem), J_X1_distribute_b80 j1  b2 τ Qr → VV p l e (headSpec wsX1_distribute ({ frames := 3, cells := 0, slots := 0, locals := 69 })).room s m ([.ref (ad (3, 0, 0)), .ref (ad (7, j1, 0))] : List Value).toArray below meth c D vwCl idsX ad (ceX tc ad) A (MQ below (va_Qv (fun (u : Mem) => Qr u) (WdO D vwCl idsX ad (ceX tc ad) A) A) ([.ref (ad (3, 0, 0)), .ref (ad (7, j1, 0))] : List Value).toArray s 0 0 A) 5 (0, 0) 80 [(0, .ref (ad (3, 0, 0))), (1, .ref (ad (7, j1, 0))), (2, .int b2)] [] τ := by
    intro b2 τ hJ
    unfold J_X1_distribute_b80 at hJ
    refine V_iconst (v := 0) C dX1_distribute_80 ci_0 ?_
    refine V_istore_n (lv' := [(3, .int 0), (0, .ref (ad (3, 0, 0))), (1, .ref (ad (7, j1, 0))), (2, .int b2)]) C dX1_distribute_81 (by decide) rfl ?_
    refine V_sub (lv' := [(0, .ref (ad (3, 0, 0))), (1, .ref (ad (7, j1, 0))), (2, .int b2), (3, .int 0)]) [1, 2, 3, 0] rfl ?_
    obtain ⟨I82, μ82, hI82, hst82⟩ := hJ
    have L82 : ∀ (n : Nat) (x3_10 : Int32) (τ10 : Mem), μ82 x3_10 τ10 < n → I82 x3_10 τ10 → VV p l e (headSpec wsX1_distribute ({ frames := 3, cells := 0, slots := 0, locals := 69 })).room s m ([.ref (ad (3, 0, 0)), .ref (ad (7, j1, 0))] : List Value).toArray below meth c D vwCl idsX ad (ceX tc ad) A (MQ below (va_Qv (fun (u : Mem) => Qr u) (WdO D vwCl idsX ad (ceX tc ad) A) A) ([.ref (ad (3, 0, 0)), .ref (ad (7, j1, 0))] : List Value).toArray s 0 0 A) 5 (0, 0) 82 [(0, .ref (ad (3, 0, 0))), (1, .ref (ad (7, j1, 0))), (2, .int b2), (3, .int x3_10)] [] τ10 := by
      intro n
      induction n with
      | zero => intro x3_10 τ10 hμ _; exact absurd hμ (Nat.not_lt_zero _)
      | succ n ihn =>
        intro x3_10 τ10 hμ82 hJ
        have ih82 := ihn
        replace hJ := hst82 x3_10 τ10 hJ
        refine V_iload_n C dX1_distribute_82 3 rfl ?_
        refine V_aload_n C dX1_distribute_83 1 rfl ?_
        refine V_get (ci := 2) C (ok7 hj1) uX2 rfl 6 (Nat.le_of_ble_eq_true rfl) rfl rfl f40 dX1_distribute_84 ?_
        obtain ⟨hJt, hJf⟩ := hJ
        refine V_icmp_ge C (tgt := 117) dX1_distribute_87 rfl (fun hc11 => ?_) (fun hc11 => ?_)
        · have hJ := hJt hc11; clear hJt hJf
          exact V_vret C hr hlocks dX1_distribute_117 hJ
        · have hJ := hJf hc11; clear hJt hJf
          refine V_aload_n C dX1_distribute_90 1 rfl ?_
          refine V_get (ci := 2) C (ok7 hj1) uX2 rfl 2 (Nat.le_of_ble_eq_true rfl) rfl rfl f65 dX1_distribute_91 ?_
          refine V_iload_n C dX1_distribute_94 3 rfl ?_
          obtain ⟨hv12, hJ⟩ := hJ
          refine V_iald C (ok10 hj1) 0 rfl rfl rfl hv12 dX1_distribute_95 ?_
          refine V_topi (fun x4_13 hx4_13 => ?_)
          replace hJ := hJ x4_13 hx4_13
          refine V_istore (lv' := [(4, .int x4_13), (0, .ref (ad (3, 0, 0))), (1, .ref (ad (7, j1, 0))), (2, .int b2), (3, .int x3_10)]) C dX1_distribute_96 (by decide) rfl ?_
          refine V_iload C dX1_distribute_98 0 rfl ?_
          refine V_iload_n C dX1_distribute_100 3 rfl ?_
          obtain ⟨hJt, hJf⟩ := hJ
          refine V_icmp_eq C (tgt := 111) dX1_distribute_101 rfl (fun hc14 => ?_) (fun hc14 => ?_)
          · have hJ := hJt hc14; clear hJt hJf
            obtain ⟨x3_15, hx3_15⟩ : ∃ y : Int32, y = x3_10 + 1 := ⟨_, rfl⟩
            replace hJ := hJ x3_15 hx3_15
            refine V_iinc (v := x3_15) (lv' := [(3, .int x3_15), (4, .int x4_13), (0, .ref (ad (3, 0, 0))), (1, .ref (ad (7, j1, 0))), (2, .int b2)]) C dX1_distribute_111 4 rfl (by rw [hx3_15]; exact congrArg _ ci_1) (by decide) rfl ?_
            refine V_goto C (tgt := 82) dX1_distribute_114 rfl ?_
            refine V_sub (lv' := [(0, .ref (ad (3, 0, 0))), (1, .ref (ad (7, j1, 0))), (2, .int b2), (3, .int x3_15)]) [2, 3, 4, 0] rfl ?_
            exact ih82 x3_15 τ10 (Nat.lt_of_lt_of_le hJ.2 (Nat.le_of_lt_succ hμ82)) hJ.1
          · have hJ := hJf hc14; clear hJt hJf
            refine V_aload_n C dX1_distribute_104 1 rfl ?_
            refine V_aload_n C dX1_distribute_105 2 rfl ?_
            refine V_iload C dX1_distribute_106 0 rfl ?_
            refine V_cVv (st := []) (ci := 1) C okX_3_0 ⟨Nat.zero_le _, Nat.zero_le _⟩ (M_X1_serve l D tc ad A j1 hj1 x4_13 hJ) (cwV 2 C.1.2.2.2.2 gX1_distribute_X1_serve rfl rfl rfl (by decide +kernel) ⟨Nat.le_of_ble_eq_true rfl, Nat.le_of_ble_eq_true rfl⟩) rfl rfl rfl rfl (Nat.le_of_ble_eq_true rfl) dX1_distribute_108 (fun τ16 hJ => ?_)
            obtain ⟨x3_17, hx3_17⟩ : ∃ y : Int32, y = x3_10 + 1 := ⟨_, rfl⟩
            replace hJ := hJ x3_17 hx3_17
            refine V_iinc (v := x3_17) (lv' := [(3, .int x3_17), (4, .int x4_13), (0, .ref (ad (3, 0, 0))), (1, .ref (ad (7, j1, 0))), (2, .int b2)]) C dX1_distribute_111 4 rfl (by rw [hx3_17]; exact congrArg _ ci_1) (by decide) rfl ?_
            refine V_goto C (tgt := 82) dX1_distribute_114 rfl ?_
            refine V_sub (lv' := [(0, .ref (ad (3, 0, 0))), (1, .ref (ad (7, j1, 0))), (2, .int b2), (3, .int x3_17)]) [2, 3, 4, 0] rfl ?_
            exact ih82 x3_17 τ16 (Nat.lt_of_lt_of_le hJ.2 (Nat.le_of_lt_succ hμ82)) hJ.1
    exact L82 _ 0 τ (Nat.lt_succ_self _) hI82
  have B61 : ∀ (b2 : Int32) (τ : Mem), J_X1_distribute_b61 j1  b2 τ Qr → VV p l e (headSpec wsX1_distribute ({ frames := 3, cells := 0, slots := 0, locals := 69 })).room s m ([.ref (ad (3, 0, 0)), .ref (ad (7, j1, 0))] : List Value).toArray below meth c D vwCl idsX ad (ceX tc ad) A (MQ below (va_Qv (fun (u : Mem) => Qr u) (WdO D vwCl idsX ad (ceX tc ad) A) A) ([.ref (ad (3, 0, 0)), .ref (ad (7, j1, 0))] : List Value).toArray s 0 0 A) 5 (0, 0) 61 [(0, .ref (ad (3, 0, 0))), (1, .ref (ad (7, j1, 0))), (2, .int b2)] [] τ := by
    intro b2 τ hJ
    unfold J_X1_distribute_b61 at hJ
    refine V_aload_n C dX1_distribute_61 0 rfl ?_
    refine V_aload_n C dX1_distribute_62 1 rfl ?_
    refine V_cVv (st := []) (ci := 1) C okX_3_0 ⟨Nat.zero_le _, Nat.zero_le _⟩ (M_X1_spread l D tc ad A j1 hj1 hJ) (cwV 1 C.1.2.2.2.2 gX1_distribute_X1_spread rfl rfl rfl (by decide +kernel) ⟨Nat.le_of_ble_eq_true rfl, Nat.le_of_ble_eq_true rfl⟩) rfl rfl rfl rfl (Nat.le_of_ble_eq_true rfl) dX1_distribute_63 (fun τ7 hJ => ?_)
    refine V_aload_n C dX1_distribute_66 1 rfl ?_
    refine V_iload_n C dX1_distribute_67 2 rfl ?_
    refine V_cVi (st := []) (ci := 2) C (ok7 hj1) ⟨Nat.zero_le _, Nat.zero_le _⟩ (M_X2_hasUser l D tc ad A j1 hj1 b2 hJ) (cwV 1 C.1.2.2.2.2 gX1_distribute_X2_hasUser rfl rfl rfl (by decide +kernel) ⟨Nat.le_of_ble_eq_true rfl, Nat.le_of_ble_eq_true rfl⟩) rfl rfl rfl rfl (Nat.le_of_ble_eq_true rfl) dX1_distribute_68 (fun r8 τ8 hJ => ?_)
    obtain ⟨hJt, hJf⟩ := hJ
    refine V_if_eq C (tgt := 80) dX1_distribute_71 rfl (fun hc9 => ?_) (fun hc9 => ?_)
    · have hJ := hJt hc9; clear hJt hJf
      exact B80 b2 τ8 hJ
    · have hJ := hJf hc9; clear hJt hJf
      refine V_aload_n C dX1_distribute_74 0 rfl ?_
      refine V_aload_n C dX1_distribute_75 1 rfl ?_
      refine V_iload_n C dX1_distribute_76 2 rfl ?_
      refine V_cVv (st := []) (ci := 1) C okX_3_0 ⟨Nat.zero_le _, Nat.zero_le _⟩ (M_X1_serve l D tc ad A j1 hj1 b2 hJ) (cwV 2 C.1.2.2.2.2 gX1_distribute_X1_serve rfl rfl rfl (by decide +kernel) ⟨Nat.le_of_ble_eq_true rfl, Nat.le_of_ble_eq_true rfl⟩) rfl rfl rfl rfl (Nat.le_of_ble_eq_true rfl) dX1_distribute_77 (fun τ18 hJ => ?_)
      exact B80 b2 τ18 hJ
  unfold J_X1_distribute at hJ
  refine V_aload_n C dX1_distribute_0 0 rfl ?_
  refine V_aload_n C dX1_distribute_1 1 rfl ?_
  refine V_cVi (st := [.ref (ad (3, 0, 0))]) (ci := 2) C (ok7 hj1) ⟨Nat.zero_le _, Nat.zero_le _⟩ (M_X2_supplyNow l D tc ad A j1 hj1 hJ) (cwV 0 C.1.2.2.2.2 gX1_distribute_X2_supplyNow rfl rfl rfl (by decide +kernel) ⟨Nat.le_of_ble_eq_true rfl, Nat.le_of_ble_eq_true rfl⟩) rfl rfl rfl rfl (Nat.le_of_ble_eq_true rfl) dX1_distribute_2 (fun r1 τ1 hJ => ?_)
  refine V_put (ci := 1) C okX_3_0 uX1 tyX1 tyX1_ok nmX1 rfl 5 (Nat.le_of_ble_eq_true rfl) rfl rfl f33 rfl (ty := .int) (by decide +kernel) rfl rfl (Nat.le_of_ble_eq_true rfl) dX1_distribute_5 (fun τ2 hτ2 => ?_)
  replace hJ := hJ τ2 hτ2
  refine V_aload_n C dX1_distribute_8 1 rfl ?_
  refine V_cVi (st := []) (ci := 2) C (ok7 hj1) ⟨Nat.zero_le _, Nat.zero_le _⟩ (M_X2_userInTurn l D tc ad A j1 hj1 hJ) (cwV 0 C.1.2.2.2.2 gX1_distribute_X2_userInTurn rfl rfl rfl (by decide +kernel) ⟨Nat.le_of_ble_eq_true rfl, Nat.le_of_ble_eq_true rfl⟩) rfl rfl rfl rfl (Nat.le_of_ble_eq_true rfl) dX1_distribute_9 (fun r3 τ3 hJ => ?_)
  refine V_istore_n (lv' := [(2, .int r3), (0, .ref (ad (3, 0, 0))), (1, .ref (ad (7, j1, 0)))]) C dX1_distribute_12 (by decide) rfl ?_
  refine V_iconst (v := 0) C dX1_distribute_13 ci_0 ?_
  refine V_istore_n (lv' := [(3, .int 0), (2, .int r3), (0, .ref (ad (3, 0, 0))), (1, .ref (ad (7, j1, 0)))]) C dX1_distribute_14 (by decide) rfl ?_
  refine V_sub (lv' := [(0, .ref (ad (3, 0, 0))), (1, .ref (ad (7, j1, 0))), (2, .int r3), (3, .int 0)]) [2, 3, 1, 0] rfl ?_
  obtain ⟨I15, μ15, hI15, hst15⟩ := hJ
  have L15 : ∀ (n : Nat) (x3_4 : Int32) (τ4 : Mem), μ15 x3_4 τ4 < n → I15 x3_4 τ4 → VV p l e (headSpec wsX1_distribute ({ frames := 3, cells := 0, slots := 0, locals := 69 })).room s m ([.ref (ad (3, 0, 0)), .ref (ad (7, j1, 0))] : List Value).toArray below meth c D vwCl idsX ad (ceX tc ad) A (MQ below (va_Qv (fun (u : Mem) => Qr u) (WdO D vwCl idsX ad (ceX tc ad) A) A) ([.ref (ad (3, 0, 0)), .ref (ad (7, j1, 0))] : List Value).toArray s 0 0 A) 5 (0, 0) 15 [(0, .ref (ad (3, 0, 0))), (1, .ref (ad (7, j1, 0))), (2, .int r3), (3, .int x3_4)] [] τ4 := by
    intro n
    induction n with
    | zero => intro x3_4 τ4 hμ _; exact absurd hμ (Nat.not_lt_zero _)
    | succ n ihn =>
      intro x3_4 τ4 hμ15 hJ
      have ih15 := ihn
      replace hJ := hst15 x3_4 τ4 hJ
      refine V_iload_n C dX1_distribute_15 3 rfl ?_
      refine V_aload_n C dX1_distribute_16 1 rfl ?_
      refine V_get (ci := 2) C (ok7 hj1) uX2 rfl 6 (Nat.le_of_ble_eq_true rfl) rfl rfl f40 dX1_distribute_17 ?_
      obtain ⟨hJt, hJf⟩ := hJ
      refine V_icmp_ge C (tgt := 48) dX1_distribute_20 rfl (fun hc5 => ?_) (fun hc5 => ?_)
      · have hJ := hJt hc5; clear hJt hJf
        refine V_aload_n C dX1_distribute_48 1 rfl ?_
        refine V_get (ci := 2) C (ok7 hj1) uX2 rfl 7 (Nat.le_of_ble_eq_true rfl) rfl rfl f47 dX1_distribute_49 ?_
        refine V_iconst (v := 2) C dX1_distribute_52 ci_2 ?_
        obtain ⟨hJt, hJf⟩ := hJ
        refine V_icmp_ne C (tgt := 61) dX1_distribute_53 rfl (fun hc6 => ?_) (fun hc6 => ?_)
        · have hJ := hJt hc6; clear hJt hJf
          refine V_sub (lv' := [(0, .ref (ad (3, 0, 0))), (1, .ref (ad (7, j1, 0))), (2, .int r3)]) [0, 1, 2] rfl ?_
          exact B61 r3 τ4 hJ
        · have hJ := hJf hc6; clear hJt hJf
          refine V_aload_n C dX1_distribute_56 0 rfl ?_
          refine V_aload_n C dX1_distribute_57 1 rfl ?_
          refine V_cVv (st := []) (ci := 1) C okX_3_0 ⟨Nat.zero_le _, Nat.zero_le _⟩ (M_X1_giveGreatestShares l D tc ad A j1 hj1 hJ) (cwV 1 C.1.2.2.2.2 gX1_distribute_X1_giveGreatestShares rfl rfl rfl (by decide +kernel) ⟨Nat.le_of_ble_eq_true rfl, Nat.le_of_ble_eq_true rfl⟩) rfl rfl rfl rfl (Nat.le_of_ble_eq_true rfl) dX1_distribute_58 (fun τ19 hJ => ?_)
          refine V_sub (lv' := [(0, .ref (ad (3, 0, 0))), (1, .ref (ad (7, j1, 0))), (2, .int r3)]) [0, 1, 2] rfl ?_
          exact B61 r3 τ19 hJ
      · have hJ := hJf hc5; clear hJt hJf
        refine V_aload_n C dX1_distribute_23 0 rfl ?_
        refine V_get (ci := 1) C okX_3_0 uX1 rfl 0 (Nat.le_of_ble_eq_true rfl) rfl rfl f9 dX1_distribute_24 ?_
        refine V_iload_n C dX1_distribute_27 3 rfl ?_
        refine V_aload_n C dX1_distribute_28 1 rfl ?_
        refine V_iload_n C dX1_distribute_29 3 rfl ?_
        refine V_iload_n C dX1_distribute_30 2 rfl ?_
        refine V_cVi (st := [.int x3_4, .ref (ad (4, 0, 0))]) (ci := 2) C (ok7 hj1) ⟨Nat.zero_le _, Nat.zero_le _⟩ (M_X2_unitsAsked l D tc ad A j1 hj1 x3_4 r3 hJ) (cwV 2 C.1.2.2.2.2 gX1_distribute_X2_unitsAsked rfl rfl rfl (by decide +kernel) ⟨Nat.le_of_ble_eq_true rfl, Nat.le_of_ble_eq_true rfl⟩) rfl rfl rfl rfl (Nat.le_of_ble_eq_true rfl) dX1_distribute_31 (fun r20 τ20 hJ => ?_)
        obtain ⟨hv21, hJ⟩ := hJ
        refine V_iast C okX_4_0 0 rfl (fun _ => rfl) rfl hv21 dX1_distribute_34 (fun τ22 hτ22 => ?_)
        replace hJ := hJ τ22 hτ22
        refine V_aload_n C dX1_distribute_35 0 rfl ?_
        refine V_get (ci := 1) C okX_3_0 uX1 rfl 1 (Nat.le_of_ble_eq_true rfl) rfl rfl f15 dX1_distribute_36 ?_
        refine V_iload_n C dX1_distribute_39 3 rfl ?_
        refine V_iconst (v := 0) C dX1_distribute_40 ci_0 ?_
        obtain ⟨hv23, hJ⟩ := hJ
        refine V_iast C okX_4_1 0 rfl (fun _ => rfl) rfl hv23 dX1_distribute_41 (fun τ24 hτ24 => ?_)
        replace hJ := hJ τ24 hτ24
        obtain ⟨x3_25, hx3_25⟩ : ∃ y : Int32, y = x3_4 + 1 := ⟨_, rfl⟩
        replace hJ := hJ x3_25 hx3_25
        refine V_iinc (v := x3_25) (lv' := [(3, .int x3_25), (0, .ref (ad (3, 0, 0))), (1, .ref (ad (7, j1, 0))), (2, .int r3)]) C dX1_distribute_42 3 rfl (by rw [hx3_25]; exact congrArg _ ci_1) (by decide) rfl ?_
        refine V_goto C (tgt := 15) dX1_distribute_45 rfl ?_
        refine V_sub (lv' := [(0, .ref (ad (3, 0, 0))), (1, .ref (ad (7, j1, 0))), (2, .int r3), (3, .int x3_25)]) [1, 2, 3, 0] rfl ?_
        exact ih15 x3_25 τ24 (Nat.lt_of_lt_of_le hJ.2 (Nat.le_of_lt_succ hμ15)) hJ.1
  exact L15 _ 0 τ3 (Nat.lt_succ_self _) hI15
set_option maxHeartbeats 4000000 in
set_option maxRecDepth 100000 in
theorem M_X5_gets (l : Launch) (D : va_G) (tc : Nat → ClassId) (ad : Oid → Nat) (A : Nat → Prop) (x1 : Int32) {σ : Mem} {Qr : Int32 → Mem → Prop} (hJ : J_X5_gets x1 σ Qr) : Met l yX5_gets wsX5_gets ({ frames := 4, cells := 0, slots := 0, locals := 93 }) (va_Pc [.ref (ad (0, 0, 0)), .int x1] (WdI D vwCl (tysX tc) idsX ad (ceX tc ad) A σ)) (va_Qi (fun (r : Int32) (u : Mem) => Qr r u) (WdO D vwCl idsX ad (ceX tc ad) A) A) 0 0 A := by
  refine V_meti (cc := cX5_gets) (nL := 2) (ret := (some .int)) (own := RX5) rfl (plainFor_of_name (by decide)) rfl rfl (Nat.le_of_ble_eq_true rfl) ?_
  intro p e s m below meth c C hr hlocks
  refine V_sub (lv' := [(0, .ref (ad (0, 0, 0))), (1, .int x1)]) [0, 1] rfl ?_
  have f10 : Cond.fieldLink RX5 10 (TX5 0).1 (TX5 0).2.1 (TX5 0).2.2.1 ∈ wsX5_gets := List.mem_of_getElem? (i := 1) rfl
  have uX5 : ∀ w ∈ u_ws RX5 TX5 6, w ∈ wsX5_gets := by decide +kernel
  have f30 : Cond.fieldLink RX5 30 (TX5 4).1 (TX5 4).2.1 (TX5 4).2.2.1 ∈ wsX5_gets := List.mem_of_getElem? (i := 2) rfl
  have f155 : Cond.fieldLink RX5 155 (TX1 1).1 (TX1 1).2.1 (TX1 1).2.2.1 ∈ wsX5_gets := List.mem_of_getElem? (i := 3) rfl
  have uX1 : ∀ w ∈ u_ws RX1 TX1 6, w ∈ wsX5_gets := by decide +kernel
  unfold J_X5_gets at hJ
  refine V_aload_n C dX5_gets_0 0 rfl ?_
  refine V_get (ci := 5) C okX_0_0 uX5 rfl 0 (Nat.le_of_ble_eq_true rfl) rfl rfl f10 dX5_gets_1 ?_
  refine V_iload_n C dX5_gets_4 1 rfl ?_
  refine V_cVi (st := []) (ci := 2) C (ok7 (by decide)) ⟨Nat.zero_le _, Nat.zero_le _⟩ (M_X2_hasUser l D tc ad A 0 (by decide) x1 hJ) (cwV 1 C.1.2.2.2.2 gX5_gets_X2_hasUser rfl rfl rfl (by decide +kernel) ⟨Nat.le_of_ble_eq_true rfl, Nat.le_of_ble_eq_true rfl⟩) rfl rfl rfl rfl (Nat.le_of_ble_eq_true rfl) dX5_gets_5 (fun r1 τ1 hJ => ?_)
  obtain ⟨hJt, hJf⟩ := hJ
  refine V_if_ne C (tgt := 14) dX5_gets_8 rfl (fun hc2 => ?_) (fun hc2 => ?_)
  · have hJ := hJt hc2; clear hJt hJf
    refine V_aload_n C dX5_gets_14 0 rfl ?_
    refine V_get (ci := 5) C okX_0_0 uX5 rfl 4 (Nat.le_of_ble_eq_true rfl) rfl rfl f30 dX5_gets_15 ?_
    refine V_aload_n C dX5_gets_18 0 rfl ?_
    refine V_get (ci := 5) C okX_0_0 uX5 rfl 0 (Nat.le_of_ble_eq_true rfl) rfl rfl f10 dX5_gets_19 ?_
    refine V_cVv (st := []) (ci := 1) C okX_3_0 ⟨Nat.zero_le _, Nat.zero_le _⟩ (M_X1_distribute l D tc ad A 0 (by decide) hJ) (cwV 1 C.1.2.2.2.2 gX5_gets_X1_distribute rfl rfl rfl (by decide +kernel) ⟨Nat.le_of_ble_eq_true rfl, Nat.le_of_ble_eq_true rfl⟩) rfl rfl rfl rfl (Nat.le_of_ble_eq_true rfl) dX5_gets_22 (fun τ3 hJ => ?_)
    refine V_aload_n C dX5_gets_25 0 rfl ?_
    refine V_get (ci := 5) C okX_0_0 uX5 rfl 4 (Nat.le_of_ble_eq_true rfl) rfl rfl f30 dX5_gets_26 ?_
    refine V_get (ci := 1) C okX_3_0 uX1 rfl 1 (Nat.le_of_ble_eq_true rfl) rfl rfl f155 dX5_gets_29 ?_
    refine V_iload_n C dX5_gets_32 1 rfl ?_
    obtain ⟨hv4, hJ⟩ := hJ
    refine V_iald C okX_4_1 0 rfl rfl rfl hv4 dX5_gets_33 ?_
    exact V_iret C hr hlocks dX5_gets_34 hJ
  · have hJ := hJf hc2; clear hJt hJf
    refine V_bipush (v := (-101)) C dX5_gets_11 cb_m101 ?_
    exact V_iret C hr hlocks dX5_gets_13 hJ
set_option maxHeartbeats 4000000 in
set_option maxRecDepth 100000 in
theorem M_X4_copyFrom (l : Launch) (D : va_G) (tc : Nat → ClassId) (ad : Oid → Nat) (A : Nat → Prop) (j0 : Nat) (i0 : Nat) (hj0 : j0 < 4) (hi0 : i0 < 12) (j1 : Nat) (i1 : Nat) (hj1 : j1 < 4) (hi1 : i1 < 12) {σ : Mem} {Qr : Mem → Prop} (hJ : J_X4_copyFrom j0 i0 j1 i1 σ Qr) : Met l yX4_copyFrom wsX4_copyFrom ({ frames := 1, cells := 0, slots := 0, locals := 23 }) (va_Pc [.ref (ad (14, j0, i0)), .ref (ad (14, j1, i1))] (WdI D vwCl (tysX tc) idsX ad (ceX tc ad) A σ)) (va_Qv (fun (u : Mem) => Qr u) (WdO D vwCl idsX ad (ceX tc ad) A) A) 0 0 A := by
  refine V_metv (cc := cX4_copyFrom) (nL := 2) (ret := none) (own := RX4) rfl (plainFor_of_name (by decide)) rfl rfl (Nat.le_of_ble_eq_true rfl) ?_
  intro p e s m below meth c C hr hlocks
  refine V_sub (lv' := [(0, .ref (ad (14, j0, i0))), (1, .ref (ad (14, j1, i1)))]) [0, 1] rfl ?_
  have f7 : Cond.fieldLink RX4 7 (TX4 0).1 (TX4 0).2.1 (TX4 0).2.2.1 ∈ wsX4_copyFrom := List.mem_of_getElem? (i := 1) rfl
  have uX4 : ∀ w ∈ u_ws RX4 TX4 12, w ∈ wsX4_copyFrom := by decide +kernel
  have f13 : Cond.fieldLink RX4 13 (TX4 1).1 (TX4 1).2.1 (TX4 1).2.2.1 ∈ wsX4_copyFrom := List.mem_of_getElem? (i := 2) rfl
  have f16 : Cond.fieldLink RX4 16 (TX4 2).1 (TX4 2).2.1 (TX4 2).2.2.1 ∈ wsX4_copyFrom := List.mem_of_getElem? (i := 3) rfl
  have f19 : Cond.fieldLink RX4 19 (TX4 3).1 (TX4 3).2.1 (TX4 3).2.2.1 ∈ wsX4_copyFrom := List.mem_of_getElem? (i := 4) rfl
  have f22 : Cond.fieldLink RX4 22 (TX4 4).1 (TX4 4).2.1 (TX4 4).2.2.1 ∈ wsX4_copyFrom := List.mem_of_getElem? (i := 5) rfl
  have f25 : Cond.fieldLink RX4 25 (TX4 5).1 (TX4 5).2.1 (TX4 5).2.2.1 ∈ wsX4_copyFrom := List.mem_of_getElem? (i := 6) rfl
  have f28 : Cond.fieldLink RX4 28 (TX4 6).1 (TX4 6).2.1 (TX4 6).2.2.1 ∈ wsX4_copyFrom := List.mem_of_getElem? (i := 7) rfl
  have f31 : Cond.fieldLink RX4 31 (TX4 7).1 (TX4 7).2.1 (TX4 7).2.2.1 ∈ wsX4_copyFrom := List.mem_of_getElem? (i := 8) rfl
  have f34 : Cond.fieldLink RX4 34 (TX4 8).1 (TX4 8).2.1 (TX4 8).2.2.1 ∈ wsX4_copyFrom := List.mem_of_getElem? (i := 9) rfl
  have f37 : Cond.fieldLink RX4 37 (TX4 9).1 (TX4 9).2.1 (TX4 9).2.2.1 ∈ wsX4_copyFrom := List.mem_of_getElem? (i := 10) rfl
  have f40 : Cond.fieldLink RX4 40 (TX4 10).1 (TX4 10).2.1 (TX4 10).2.2.1 ∈ wsX4_copyFrom := List.mem_of_getElem? (i := 11) rfl
  have f43 : Cond.fieldLink RX4 43 (TX4 11).1 (TX4 11).2.1 (TX4 11).2.2.1 ∈ wsX4_copyFrom := List.mem_of_getElem? (i := 12) rfl
  unfold J_X4_copyFrom at hJ
  refine V_aload_n C dX4_copyFrom_0 0 rfl ?_
  refine V_aload_n C dX4_copyFrom_1 1 rfl ?_
  refine V_get (ci := 4) C (ok14 hj1 hi1) uX4 rfl 0 (Nat.le_of_ble_eq_true rfl) rfl rfl f7 dX4_copyFrom_2 ?_
  refine V_aload_n C dX4_copyFrom_5 1 rfl ?_
  refine V_get (ci := 4) C (ok14 hj1 hi1) uX4 rfl 1 (Nat.le_of_ble_eq_true rfl) rfl rfl f13 dX4_copyFrom_6 ?_
  refine V_aload_n C dX4_copyFrom_9 1 rfl ?_
  refine V_get (ci := 4) C (ok14 hj1 hi1) uX4 rfl 2 (Nat.le_of_ble_eq_true rfl) rfl rfl f16 dX4_copyFrom_10 ?_
  refine V_cVv (st := []) (ci := 4) C (ok14 hj0 hi0) ⟨Nat.zero_le _, Nat.zero_le _⟩ (M_X4_begin l D tc ad A j0 i0 hj0 hi0 (σ (14, j1, i1) 0) (σ (14, j1, i1) 1) (σ (14, j1, i1) 2) hJ) (cwV 3 C.1.2.2.2.2 gX4_copyFrom_X4_begin rfl rfl rfl (by decide +kernel) ⟨Nat.le_of_ble_eq_true rfl, Nat.le_of_ble_eq_true rfl⟩) rfl rfl rfl rfl (Nat.le_of_ble_eq_true rfl) dX4_copyFrom_13 (fun τ1 hJ => ?_)
  refine V_aload_n C dX4_copyFrom_16 0 rfl ?_
  refine V_aload_n C dX4_copyFrom_17 1 rfl ?_
  refine V_get (ci := 4) C (ok14 hj1 hi1) uX4 rfl 3 (Nat.le_of_ble_eq_true rfl) rfl rfl f19 dX4_copyFrom_18 ?_
  refine V_put (ci := 4) C (ok14 hj0 hi0) uX4 tyX4 tyX4_ok nmX4 rfl 3 (Nat.le_of_ble_eq_true rfl) rfl rfl f19 rfl (ty := .int) (by decide +kernel) rfl rfl (Nat.le_of_ble_eq_true rfl) dX4_copyFrom_21 (fun τ2 hτ2 => ?_)
  replace hJ := hJ τ2 hτ2
  refine V_aload_n C dX4_copyFrom_24 0 rfl ?_
  refine V_aload_n C dX4_copyFrom_25 1 rfl ?_
  refine V_get (ci := 4) C (ok14 hj1 hi1) uX4 rfl 4 (Nat.le_of_ble_eq_true rfl) rfl rfl f22 dX4_copyFrom_26 ?_
  refine V_put (ci := 4) C (ok14 hj0 hi0) uX4 tyX4 tyX4_ok nmX4 rfl 4 (Nat.le_of_ble_eq_true rfl) rfl rfl f22 rfl (ty := .int) (by decide +kernel) rfl rfl (Nat.le_of_ble_eq_true rfl) dX4_copyFrom_29 (fun τ3 hτ3 => ?_)
  replace hJ := hJ τ3 hτ3
  refine V_aload_n C dX4_copyFrom_32 0 rfl ?_
  refine V_aload_n C dX4_copyFrom_33 1 rfl ?_
  refine V_get (ci := 4) C (ok14 hj1 hi1) uX4 rfl 5 (Nat.le_of_ble_eq_true rfl) rfl rfl f25 dX4_copyFrom_34 ?_
  refine V_put (ci := 4) C (ok14 hj0 hi0) uX4 tyX4 tyX4_ok nmX4 rfl 5 (Nat.le_of_ble_eq_true rfl) rfl rfl f25 rfl (ty := .int) (by decide +kernel) rfl rfl (Nat.le_of_ble_eq_true rfl) dX4_copyFrom_37 (fun τ4 hτ4 => ?_)
  replace hJ := hJ τ4 hτ4
  refine V_aload_n C dX4_copyFrom_40 0 rfl ?_
  refine V_aload_n C dX4_copyFrom_41 1 rfl ?_
  refine V_get (ci := 4) C (ok14 hj1 hi1) uX4 rfl 6 (Nat.le_of_ble_eq_true rfl) rfl rfl f28 dX4_copyFrom_42 ?_
  refine V_put (ci := 4) C (ok14 hj0 hi0) uX4 tyX4 tyX4_ok nmX4 rfl 6 (Nat.le_of_ble_eq_true rfl) rfl rfl f28 rfl (ty := .int) (by decide +kernel) rfl rfl (Nat.le_of_ble_eq_true rfl) dX4_copyFrom_45 (fun τ5 hτ5 => ?_)
  replace hJ := hJ τ5 hτ5
  refine V_aload_n C dX4_copyFrom_48 0 rfl ?_
  refine V_aload_n C dX4_copyFrom_49 1 rfl ?_
  refine V_get (ci := 4) C (ok14 hj1 hi1) uX4 rfl 7 (Nat.le_of_ble_eq_true rfl) rfl rfl f31 dX4_copyFrom_50 ?_
  refine V_put (ci := 4) C (ok14 hj0 hi0) uX4 tyX4 tyX4_ok nmX4 rfl 7 (Nat.le_of_ble_eq_true rfl) rfl rfl f31 rfl (ty := .int) (by decide +kernel) rfl rfl (Nat.le_of_ble_eq_true rfl) dX4_copyFrom_53 (fun τ6 hτ6 => ?_)
  replace hJ := hJ τ6 hτ6
  refine V_aload_n C dX4_copyFrom_56 0 rfl ?_
  refine V_aload_n C dX4_copyFrom_57 1 rfl ?_
  refine V_get (ci := 4) C (ok14 hj1 hi1) uX4 rfl 8 (Nat.le_of_ble_eq_true rfl) rfl rfl f34 dX4_copyFrom_58 ?_
  refine V_put (ci := 4) C (ok14 hj0 hi0) uX4 tyX4 tyX4_ok nmX4 rfl 8 (Nat.le_of_ble_eq_true rfl) rfl rfl f34 rfl (ty := .int) (by decide +kernel) rfl rfl (Nat.le_of_ble_eq_true rfl) dX4_copyFrom_61 (fun τ7 hτ7 => ?_)
  replace hJ := hJ τ7 hτ7
  refine V_aload_n C dX4_copyFrom_64 0 rfl ?_
  refine V_aload_n C dX4_copyFrom_65 1 rfl ?_
  refine V_get (ci := 4) C (ok14 hj1 hi1) uX4 rfl 9 (Nat.le_of_ble_eq_true rfl) rfl rfl f37 dX4_copyFrom_66 ?_
  refine V_put (ci := 4) C (ok14 hj0 hi0) uX4 tyX4 tyX4_ok nmX4 rfl 9 (Nat.le_of_ble_eq_true rfl) rfl rfl f37 rfl (ty := .int) (by decide +kernel) rfl rfl (Nat.le_of_ble_eq_true rfl) dX4_copyFrom_69 (fun τ8 hτ8 => ?_)
  replace hJ := hJ τ8 hτ8
  refine V_aload_n C dX4_copyFrom_72 0 rfl ?_
  refine V_aload_n C dX4_copyFrom_73 1 rfl ?_
  refine V_get (ci := 4) C (ok14 hj1 hi1) uX4 rfl 10 (Nat.le_of_ble_eq_true rfl) rfl rfl f40 dX4_copyFrom_74 ?_
  refine V_put (ci := 4) C (ok14 hj0 hi0) uX4 tyX4 tyX4_ok nmX4 rfl 10 (Nat.le_of_ble_eq_true rfl) rfl rfl f40 rfl (ty := .int) (by decide +kernel) rfl rfl (Nat.le_of_ble_eq_true rfl) dX4_copyFrom_77 (fun τ9 hτ9 => ?_)
  replace hJ := hJ τ9 hτ9
  refine V_aload_n C dX4_copyFrom_80 0 rfl ?_
  refine V_aload_n C dX4_copyFrom_81 1 rfl ?_
  refine V_get (ci := 4) C (ok14 hj1 hi1) uX4 rfl 11 (Nat.le_of_ble_eq_true rfl) rfl rfl f43 dX4_copyFrom_82 ?_
  obtain ⟨hb11, hJ⟩ := hJ
  refine V_put (ci := 4) C (ok14 hj0 hi0) uX4 tyX4 tyX4_ok nmX4 rfl 11 (Nat.le_of_ble_eq_true rfl) rfl rfl f43 rfl (ty := .boolean) (by decide +kernel) (isB_narrow hb11) (isB_fits hb11) (Nat.le_of_ble_eq_true rfl) dX4_copyFrom_85 (fun τ10 hτ10 => ?_)
  replace hJ := hJ τ10 hτ10
  exact V_vret C hr hlocks dX4_copyFrom_88 hJ
set_option maxHeartbeats 4000000 in
set_option maxRecDepth 100000 in
theorem M_X2_copyFrom (l : Launch) (D : va_G) (tc : Nat → ClassId) (ad : Oid → Nat) (A : Nat → Prop) (j0 : Nat) (hj0 : j0 < 4) (j1 : Nat) (hj1 : j1 < 4) {σ : Mem} {Qr : Mem → Prop} (hJ : J_X2_copyFrom j0 j1 σ Qr) : Met l yX2_copyFrom wsX2_copyFrom ({ frames := 2, cells := 0, slots := 0, locals := 44 }) (va_Pc [.ref (ad (7, j0, 0)), .ref (ad (7, j1, 0))] (WdI D vwCl (tysX tc) idsX ad (ceX tc ad) A σ)) (va_Qv (fun (u : Mem) => Qr u) (WdO D vwCl idsX ad (ceX tc ad) A) A) 0 0 A := by
  refine V_metv (cc := cX2_copyFrom) (nL := 4) (ret := none) (own := RX2) rfl (plainFor_of_name (by decide)) rfl rfl (Nat.le_of_ble_eq_true rfl) ?_
  intro p e s m below meth c C hr hlocks
  refine V_sub (lv' := [(0, .ref (ad (7, j0, 0))), (1, .ref (ad (7, j1, 0)))]) [0, 1] rfl ?_
  have f49 : Cond.fieldLink RX2 49 (TX2 5).1 (TX2 5).2.1 (TX2 5).2.2.1 ∈ wsX2_copyFrom := List.mem_of_getElem? (i := 1) rfl
  have uX2 : ∀ w ∈ u_ws RX2 TX2 10, w ∈ wsX2_copyFrom := by decide +kernel
  have f64 : Cond.fieldLink RX2 64 (TX2 6).1 (TX2 6).2.1 (TX2 6).2.2.1 ∈ wsX2_copyFrom := List.mem_of_getElem? (i := 6) rfl
  have f33 : Cond.fieldLink RX2 33 (TX2 7).1 (TX2 7).2.1 (TX2 7).2.2.1 ∈ wsX2_copyFrom := List.mem_of_getElem? (i := 11) rfl
  have f37 : Cond.fieldLink RX2 37 (TX2 8).1 (TX2 8).2.1 (TX2 8).2.2.1 ∈ wsX2_copyFrom := List.mem_of_getElem? (i := 12) rfl
  have f71 : Cond.fieldLink RX2 71 (TX2 9).1 (TX2 9).2.1 (TX2 9).2.2.1 ∈ wsX2_copyFrom := List.mem_of_getElem? (i := 13) rfl
  have f30 : Cond.fieldLink RX2 30 (TX2 4).1 (TX2 4).2.1 (TX2 4).2.2.1 ∈ wsX2_copyFrom := List.mem_of_getElem? (i := 10) rfl
  have f27 : Cond.fieldLink RX2 27 (TX2 3).1 (TX2 3).2.1 (TX2 3).2.2.1 ∈ wsX2_copyFrom := List.mem_of_getElem? (i := 9) rfl
  have f19 : Cond.fieldLink RX2 19 (TX2 1).1 (TX2 1).2.1 (TX2 1).2.2.1 ∈ wsX2_copyFrom := List.mem_of_getElem? (i := 7) rfl
  have f23 : Cond.fieldLink RX2 23 (TX2 2).1 (TX2 2).2.1 (TX2 2).2.2.1 ∈ wsX2_copyFrom := List.mem_of_getElem? (i := 8) rfl
  have f11 : Cond.fieldLink RX2 11 (TX2 0).1 (TX2 0).2.1 (TX2 0).2.2.1 ∈ wsX2_copyFrom := List.mem_of_getElem? (i := 2) rfl
  have f52 : Cond.fieldLink RX2 52 (TX0 0).1 (TX0 0).2.1 (TX0 0).2.2.1 ∈ wsX2_copyFrom := List.mem_of_getElem? (i := 3) rfl
  have uX0 : ∀ w ∈ u_ws RX0 TX0 3, w ∈ wsX2_copyFrom := by decide +kernel
  have f55 : Cond.fieldLink RX2 55 (TX0 1).1 (TX0 1).2.1 (TX0 1).2.2.1 ∈ wsX2_copyFrom := List.mem_of_getElem? (i := 4) rfl
  have f58 : Cond.fieldLink RX2 58 (TX0 2).1 (TX0 2).2.1 (TX0 2).2.2.1 ∈ wsX2_copyFrom := List.mem_of_getElem? (i := 5) rfl
  unfold J_X2_copyFrom at hJ
  refine V_aload_n C dX2_copyFrom_0 0 rfl ?_
  refine V_aload_n C dX2_copyFrom_1 1 rfl ?_
  refine V_get (ci := 2) C (ok7 hj1) uX2 rfl 5 (Nat.le_of_ble_eq_true rfl) rfl rfl f49 dX2_copyFrom_2 ?_
  refine V_put (ci := 2) C (ok7 hj0) uX2 tyX2 tyX2_ok nmX2 rfl 5 (Nat.le_of_ble_eq_true rfl) rfl rfl f49 rfl (ty := .int) (by decide +kernel) rfl rfl (Nat.le_of_ble_eq_true rfl) dX2_copyFrom_5 (fun τ1 hτ1 => ?_)
  replace hJ := hJ τ1 hτ1
  refine V_iconst (v := 0) C dX2_copyFrom_8 ci_0 ?_
  refine V_istore_n (lv' := [(2, .int 0), (0, .ref (ad (7, j0, 0))), (1, .ref (ad (7, j1, 0)))]) C dX2_copyFrom_9 (by decide) rfl ?_
  refine V_sub (lv' := [(0, .ref (ad (7, j0, 0))), (1, .ref (ad (7, j1, 0))), (2, .int 0)]) [1, 2, 0] rfl ?_
  obtain ⟨I10, μ10, hI10, hst10⟩ := hJ
  have L10 : ∀ (n : Nat) (x2_2 : Int32) (τ2 : Mem), μ10 x2_2 τ2 < n → I10 x2_2 τ2 → VV p l e (headSpec wsX2_copyFrom ({ frames := 2, cells := 0, slots := 0, locals := 44 })).room s m ([.ref (ad (7, j0, 0)), .ref (ad (7, j1, 0))] : List Value).toArray below meth c D vwCl idsX ad (ceX tc ad) A (MQ below (va_Qv (fun (u : Mem) => Qr u) (WdO D vwCl idsX ad (ceX tc ad) A) A) ([.ref (ad (7, j0, 0)), .ref (ad (7, j1, 0))] : List Value).toArray s 0 0 A) 4 (0, 0) 10 [(0, .ref (ad (7, j0, 0))), (1, .ref (ad (7, j1, 0))), (2, .int x2_2)] [] τ2 := by
    intro n
    induction n with
    | zero => intro x2_2 τ2 hμ _; exact absurd hμ (Nat.not_lt_zero _)
    | succ n ihn =>
      intro x2_2 τ2 hμ10 hJ
      have ih10 := ihn
      replace hJ := hst10 x2_2 τ2 hJ
      refine V_iload_n C dX2_copyFrom_10 2 rfl ?_
      refine V_aload_n C dX2_copyFrom_11 0 rfl ?_
      refine V_get (ci := 2) C (ok7 hj0) uX2 rfl 5 (Nat.le_of_ble_eq_true rfl) rfl rfl f49 dX2_copyFrom_12 ?_
      obtain ⟨hJt, hJf⟩ := hJ
      refine V_icmp_ge C (tgt := 52) dX2_copyFrom_15 rfl (fun hc3 => ?_) (fun hc3 => ?_)
      · have hJ := hJt hc3; clear hJt hJf
        refine V_aload_n C dX2_copyFrom_52 0 rfl ?_
        refine V_aload_n C dX2_copyFrom_53 1 rfl ?_
        refine V_get (ci := 2) C (ok7 hj1) uX2 rfl 6 (Nat.le_of_ble_eq_true rfl) rfl rfl f64 dX2_copyFrom_54 ?_
        refine V_put (ci := 2) C (ok7 hj0) uX2 tyX2 tyX2_ok nmX2 rfl 6 (Nat.le_of_ble_eq_true rfl) rfl rfl f64 rfl (ty := .int) (by decide +kernel) rfl rfl (Nat.le_of_ble_eq_true rfl) dX2_copyFrom_57 (fun τ4 hτ4 => ?_)
        replace hJ := hJ τ4 hτ4
        refine V_iconst (v := 0) C dX2_copyFrom_60 ci_0 ?_
        refine V_istore_n (lv' := [(2, .int 0), (0, .ref (ad (7, j0, 0))), (1, .ref (ad (7, j1, 0)))]) C dX2_copyFrom_61 (by decide) rfl ?_
        refine V_sub (lv' := [(0, .ref (ad (7, j0, 0))), (1, .ref (ad (7, j1, 0))), (2, .int 0)]) [1, 2, 0] rfl ?_
        obtain ⟨I62, μ62, hI62, hst62⟩ := hJ
        have L62 : ∀ (n : Nat) (x2_5 : Int32) (τ5 : Mem), μ62 x2_5 τ5 < n → I62 x2_5 τ5 → VV p l e (headSpec wsX2_copyFrom ({ frames := 2, cells := 0, slots := 0, locals := 44 })).room s m ([.ref (ad (7, j0, 0)), .ref (ad (7, j1, 0))] : List Value).toArray below meth c D vwCl idsX ad (ceX tc ad) A (MQ below (va_Qv (fun (u : Mem) => Qr u) (WdO D vwCl idsX ad (ceX tc ad) A) A) ([.ref (ad (7, j0, 0)), .ref (ad (7, j1, 0))] : List Value).toArray s 0 0 A) 4 (0, 0) 62 [(0, .ref (ad (7, j0, 0))), (1, .ref (ad (7, j1, 0))), (2, .int x2_5)] [] τ5 := by
          intro n
          induction n with
          | zero => intro x2_5 τ5 hμ _; exact absurd hμ (Nat.not_lt_zero _)
          | succ n ihn =>
            intro x2_5 τ5 hμ62 hJ
            have ih62 := ihn
            replace hJ := hst62 x2_5 τ5 hJ
            refine V_iload_n C dX2_copyFrom_62 2 rfl ?_
            refine V_aload_n C dX2_copyFrom_63 0 rfl ?_
            refine V_get (ci := 2) C (ok7 hj0) uX2 rfl 6 (Nat.le_of_ble_eq_true rfl) rfl rfl f64 dX2_copyFrom_64 ?_
            obtain ⟨hJt, hJf⟩ := hJ
            refine V_icmp_ge C (tgt := 103) dX2_copyFrom_67 rfl (fun hc6 => ?_) (fun hc6 => ?_)
            · have hJ := hJt hc6; clear hJt hJf
              refine V_iconst (v := 0) C dX2_copyFrom_103 ci_0 ?_
              refine V_istore_n (lv' := [(2, .int 0), (0, .ref (ad (7, j0, 0))), (1, .ref (ad (7, j1, 0)))]) C dX2_copyFrom_104 (by decide) rfl ?_
              refine V_sub (lv' := [(0, .ref (ad (7, j0, 0))), (1, .ref (ad (7, j1, 0))), (2, .int 0)]) [1, 2, 0] rfl ?_
              obtain ⟨I105, μ105, hI105, hst105⟩ := hJ
              have L105 : ∀ (n : Nat) (x2_7 : Int32) (τ7 : Mem), μ105 x2_7 τ7 < n → I105 x2_7 τ7 → VV p l e (headSpec wsX2_copyFrom ({ frames := 2, cells := 0, slots := 0, locals := 44 })).room s m ([.ref (ad (7, j0, 0)), .ref (ad (7, j1, 0))] : List Value).toArray below meth c D vwCl idsX ad (ceX tc ad) A (MQ below (va_Qv (fun (u : Mem) => Qr u) (WdO D vwCl idsX ad (ceX tc ad) A) A) ([.ref (ad (7, j0, 0)), .ref (ad (7, j1, 0))] : List Value).toArray s 0 0 A) 4 (0, 0) 105 [(0, .ref (ad (7, j0, 0))), (1, .ref (ad (7, j1, 0))), (2, .int x2_7)] [] τ7 := by
                intro n
                induction n with
                | zero => intro x2_7 τ7 hμ _; exact absurd hμ (Nat.not_lt_zero _)
                | succ n ihn =>
                  intro x2_7 τ7 hμ105 hJ
                  have ih105 := ihn
                  replace hJ := hst105 x2_7 τ7 hJ
                  refine V_iload_n C dX2_copyFrom_105 2 rfl ?_
                  refine V_bipush (v := 24) C dX2_copyFrom_106 cb_24 ?_
                  obtain ⟨hJt, hJf⟩ := hJ
                  refine V_icmp_ge C (tgt := 129) dX2_copyFrom_108 rfl (fun hc8 => ?_) (fun hc8 => ?_)
                  · have hJ := hJt hc8; clear hJt hJf
                    refine V_iconst (v := 0) C dX2_copyFrom_129 ci_0 ?_
                    refine V_istore_n (lv' := [(2, .int 0), (0, .ref (ad (7, j0, 0))), (1, .ref (ad (7, j1, 0)))]) C dX2_copyFrom_130 (by decide) rfl ?_
                    refine V_sub (lv' := [(0, .ref (ad (7, j0, 0))), (1, .ref (ad (7, j1, 0))), (2, .int 0)]) [1, 2, 0] rfl ?_
                    obtain ⟨I131, μ131, hI131, hst131⟩ := hJ
                    have L131 : ∀ (n : Nat) (x2_9 : Int32) (τ9 : Mem), μ131 x2_9 τ9 < n → I131 x2_9 τ9 → VV p l e (headSpec wsX2_copyFrom ({ frames := 2, cells := 0, slots := 0, locals := 44 })).room s m ([.ref (ad (7, j0, 0)), .ref (ad (7, j1, 0))] : List Value).toArray below meth c D vwCl idsX ad (ceX tc ad) A (MQ below (va_Qv (fun (u : Mem) => Qr u) (WdO D vwCl idsX ad (ceX tc ad) A) A) ([.ref (ad (7, j0, 0)), .ref (ad (7, j1, 0))] : List Value).toArray s 0 0 A) 4 (0, 0) 131 [(0, .ref (ad (7, j0, 0))), (1, .ref (ad (7, j1, 0))), (2, .int x2_9)] [] τ9 := by
                      intro n
                      induction n with
                      | zero => intro x2_9 τ9 hμ _; exact absurd hμ (Nat.not_lt_zero _)
                      | succ n ihn =>
                        intro x2_9 τ9 hμ131 hJ
                        have ih131 := ihn
                        replace hJ := hst131 x2_9 τ9 hJ
                        refine V_iload_n C dX2_copyFrom_131 2 rfl ?_
                        refine V_bipush (v := 7) C dX2_copyFrom_132 cb_7 ?_
                        obtain ⟨hJt, hJf⟩ := hJ
                        refine V_icmp_ge C (tgt := 155) dX2_copyFrom_134 rfl (fun hc10 => ?_) (fun hc10 => ?_)
                        · have hJ := hJt hc10; clear hJt hJf
                          refine V_aload_n C dX2_copyFrom_155 0 rfl ?_
                          refine V_aload_n C dX2_copyFrom_156 1 rfl ?_
                          refine V_get (ci := 2) C (ok7 hj1) uX2 rfl 7 (Nat.le_of_ble_eq_true rfl) rfl rfl f33 dX2_copyFrom_157 ?_
                          refine V_put (ci := 2) C (ok7 hj0) uX2 tyX2 tyX2_ok nmX2 rfl 7 (Nat.le_of_ble_eq_true rfl) rfl rfl f33 rfl (ty := .int) (by decide +kernel) rfl rfl (Nat.le_of_ble_eq_true rfl) dX2_copyFrom_160 (fun τ11 hτ11 => ?_)
                          replace hJ := hJ τ11 hτ11
                          refine V_aload_n C dX2_copyFrom_163 0 rfl ?_
                          refine V_aload_n C dX2_copyFrom_164 1 rfl ?_
                          refine V_get (ci := 2) C (ok7 hj1) uX2 rfl 8 (Nat.le_of_ble_eq_true rfl) rfl rfl f37 dX2_copyFrom_165 ?_
                          refine V_put (ci := 2) C (ok7 hj0) uX2 tyX2 tyX2_ok nmX2 rfl 8 (Nat.le_of_ble_eq_true rfl) rfl rfl f37 rfl (ty := .int) (by decide +kernel) rfl rfl (Nat.le_of_ble_eq_true rfl) dX2_copyFrom_168 (fun τ12 hτ12 => ?_)
                          replace hJ := hJ τ12 hτ12
                          refine V_aload_n C dX2_copyFrom_171 0 rfl ?_
                          refine V_aload_n C dX2_copyFrom_172 1 rfl ?_
                          refine V_get (ci := 2) C (ok7 hj1) uX2 rfl 9 (Nat.le_of_ble_eq_true rfl) rfl rfl f71 dX2_copyFrom_173 ?_
                          refine V_put (ci := 2) C (ok7 hj0) uX2 tyX2 tyX2_ok nmX2 rfl 9 (Nat.le_of_ble_eq_true rfl) rfl rfl f71 rfl (ty := .int) (by decide +kernel) rfl rfl (Nat.le_of_ble_eq_true rfl) dX2_copyFrom_176 (fun τ13 hτ13 => ?_)
                          replace hJ := hJ τ13 hτ13
                          exact V_vret C hr hlocks dX2_copyFrom_179 hJ
                        · have hJ := hJf hc10; clear hJt hJf
                          refine V_aload_n C dX2_copyFrom_137 0 rfl ?_
                          refine V_get (ci := 2) C (ok7 hj0) uX2 rfl 4 (Nat.le_of_ble_eq_true rfl) rfl rfl f30 dX2_copyFrom_138 ?_
                          refine V_iload_n C dX2_copyFrom_141 2 rfl ?_
                          refine V_aload_n C dX2_copyFrom_142 1 rfl ?_
                          refine V_get (ci := 2) C (ok7 hj1) uX2 rfl 4 (Nat.le_of_ble_eq_true rfl) rfl rfl f30 dX2_copyFrom_143 ?_
                          refine V_iload_n C dX2_copyFrom_146 2 rfl ?_
                          obtain ⟨hv14, hJ⟩ := hJ
                          refine V_iald C (ok12 hj1) 0 rfl rfl rfl hv14 dX2_copyFrom_147 ?_
                          obtain ⟨hv15, hJ⟩ := hJ
                          refine V_iast C (ok12 hj0) 0 rfl (fun _ => rfl) rfl hv15 dX2_copyFrom_148 (fun τ16 hτ16 => ?_)
                          replace hJ := hJ τ16 hτ16
                          obtain ⟨x2_17, hx2_17⟩ : ∃ y : Int32, y = x2_9 + 1 := ⟨_, rfl⟩
                          replace hJ := hJ x2_17 hx2_17
                          refine V_iinc (v := x2_17) (lv' := [(2, .int x2_17), (0, .ref (ad (7, j0, 0))), (1, .ref (ad (7, j1, 0)))]) C dX2_copyFrom_149 2 rfl (by rw [hx2_17]; exact congrArg _ ci_1) (by decide) rfl ?_
                          refine V_goto C (tgt := 131) dX2_copyFrom_152 rfl ?_
                          refine V_sub (lv' := [(0, .ref (ad (7, j0, 0))), (1, .ref (ad (7, j1, 0))), (2, .int x2_17)]) [1, 2, 0] rfl ?_
                          exact ih131 x2_17 τ16 (Nat.lt_of_lt_of_le hJ.2 (Nat.le_of_lt_succ hμ131)) hJ.1
                    exact L131 _ 0 τ7 (Nat.lt_succ_self _) hI131
                  · have hJ := hJf hc8; clear hJt hJf
                    refine V_aload_n C dX2_copyFrom_111 0 rfl ?_
                    refine V_get (ci := 2) C (ok7 hj0) uX2 rfl 3 (Nat.le_of_ble_eq_true rfl) rfl rfl f27 dX2_copyFrom_112 ?_
                    refine V_iload_n C dX2_copyFrom_115 2 rfl ?_
                    refine V_aload_n C dX2_copyFrom_116 1 rfl ?_
                    refine V_get (ci := 2) C (ok7 hj1) uX2 rfl 3 (Nat.le_of_ble_eq_true rfl) rfl rfl f27 dX2_copyFrom_117 ?_
                    refine V_iload_n C dX2_copyFrom_120 2 rfl ?_
                    obtain ⟨hv18, hJ⟩ := hJ
                    refine V_iald C (ok11 hj1) 0 rfl rfl rfl hv18 dX2_copyFrom_121 ?_
                    obtain ⟨hv19, hJ⟩ := hJ
                    refine V_iast C (ok11 hj0) 0 rfl (fun _ => rfl) rfl hv19 dX2_copyFrom_122 (fun τ20 hτ20 => ?_)
                    replace hJ := hJ τ20 hτ20
                    obtain ⟨x2_21, hx2_21⟩ : ∃ y : Int32, y = x2_7 + 1 := ⟨_, rfl⟩
                    replace hJ := hJ x2_21 hx2_21
                    refine V_iinc (v := x2_21) (lv' := [(2, .int x2_21), (0, .ref (ad (7, j0, 0))), (1, .ref (ad (7, j1, 0)))]) C dX2_copyFrom_123 2 rfl (by rw [hx2_21]; exact congrArg _ ci_1) (by decide) rfl ?_
                    refine V_goto C (tgt := 105) dX2_copyFrom_126 rfl ?_
                    refine V_sub (lv' := [(0, .ref (ad (7, j0, 0))), (1, .ref (ad (7, j1, 0))), (2, .int x2_21)]) [1, 2, 0] rfl ?_
                    exact ih105 x2_21 τ20 (Nat.lt_of_lt_of_le hJ.2 (Nat.le_of_lt_succ hμ105)) hJ.1
              exact L105 _ 0 τ5 (Nat.lt_succ_self _) hI105
            · have hJ := hJf hc6; clear hJt hJf
              refine V_aload_n C dX2_copyFrom_70 0 rfl ?_
              refine V_get (ci := 2) C (ok7 hj0) uX2 rfl 1 (Nat.le_of_ble_eq_true rfl) rfl rfl f19 dX2_copyFrom_71 ?_
              refine V_iload_n C dX2_copyFrom_74 2 rfl ?_
              obtain ⟨hv22, hJ⟩ := hJ
              refine V_aald (o' := (14, j0, x2_5.toNatClampNeg)) C (ok9 hj0) 4 rfl rfl hv22 rfl dX2_copyFrom_75 ?_
              refine V_aload_n C dX2_copyFrom_76 1 rfl ?_
              refine V_get (ci := 2) C (ok7 hj1) uX2 rfl 1 (Nat.le_of_ble_eq_true rfl) rfl rfl f19 dX2_copyFrom_77 ?_
              refine V_iload_n C dX2_copyFrom_80 2 rfl ?_
              obtain ⟨hv23, hJ⟩ := hJ
              refine V_aald (o' := (14, j1, x2_5.toNatClampNeg)) C (ok9 hj1) 4 rfl rfl hv23 rfl dX2_copyFrom_81 ?_
              refine V_cVv (st := []) (ci := 4) C (ok14 hj0 (vp_lt hv22)) ⟨Nat.zero_le _, Nat.zero_le _⟩ (M_X4_copyFrom l D tc ad A j0 x2_5.toNatClampNeg hj0 (vp_lt hv22) j1 x2_5.toNatClampNeg hj1 (vp_lt hv23) hJ) (cwV 1 C.1.2.2.2.2 gX2_copyFrom_X4_copyFrom rfl rfl rfl (by decide +kernel) ⟨Nat.le_of_ble_eq_true rfl, Nat.le_of_ble_eq_true rfl⟩) rfl rfl rfl rfl (Nat.le_of_ble_eq_true rfl) dX2_copyFrom_82 (fun τ24 hJ => ?_)
              refine V_aload_n C dX2_copyFrom_85 0 rfl ?_
              refine V_get (ci := 2) C (ok7 hj0) uX2 rfl 2 (Nat.le_of_ble_eq_true rfl) rfl rfl f23 dX2_copyFrom_86 ?_
              refine V_iload_n C dX2_copyFrom_89 2 rfl ?_
              refine V_aload_n C dX2_copyFrom_90 1 rfl ?_
              refine V_get (ci := 2) C (ok7 hj1) uX2 rfl 2 (Nat.le_of_ble_eq_true rfl) rfl rfl f23 dX2_copyFrom_91 ?_
              refine V_iload_n C dX2_copyFrom_94 2 rfl ?_
              obtain ⟨hv25, hJ⟩ := hJ
              refine V_iald C (ok10 hj1) 0 rfl rfl rfl hv25 dX2_copyFrom_95 ?_
              obtain ⟨hv26, hJ⟩ := hJ
              refine V_iast C (ok10 hj0) 0 rfl (fun _ => rfl) rfl hv26 dX2_copyFrom_96 (fun τ27 hτ27 => ?_)
              replace hJ := hJ τ27 hτ27
              obtain ⟨x2_28, hx2_28⟩ : ∃ y : Int32, y = x2_5 + 1 := ⟨_, rfl⟩
              replace hJ := hJ x2_28 hx2_28
              refine V_iinc (v := x2_28) (lv' := [(2, .int x2_28), (0, .ref (ad (7, j0, 0))), (1, .ref (ad (7, j1, 0)))]) C dX2_copyFrom_97 2 rfl (by rw [hx2_28]; exact congrArg _ ci_1) (by decide) rfl ?_
              refine V_goto C (tgt := 62) dX2_copyFrom_100 rfl ?_
              refine V_sub (lv' := [(0, .ref (ad (7, j0, 0))), (1, .ref (ad (7, j1, 0))), (2, .int x2_28)]) [1, 2, 0] rfl ?_
              exact ih62 x2_28 τ27 (Nat.lt_of_lt_of_le hJ.2 (Nat.le_of_lt_succ hμ62)) hJ.1
        exact L62 _ 0 τ4 (Nat.lt_succ_self _) hI62
      · have hJ := hJf hc3; clear hJt hJf
        refine V_aload_n C dX2_copyFrom_18 1 rfl ?_
        refine V_get (ci := 2) C (ok7 hj1) uX2 rfl 0 (Nat.le_of_ble_eq_true rfl) rfl rfl f11 dX2_copyFrom_19 ?_
        refine V_iload_n C dX2_copyFrom_22 2 rfl ?_
        obtain ⟨hv29, hJ⟩ := hJ
        refine V_aald (o' := (13, j1, x2_2.toNatClampNeg)) C (ok8 hj1) 3 rfl rfl hv29 rfl dX2_copyFrom_23 ?_
        refine V_astore_n (lv' := [(3, .ref (ad (13, j1, x2_2.toNatClampNeg))), (0, .ref (ad (7, j0, 0))), (1, .ref (ad (7, j1, 0))), (2, .int x2_2)]) C dX2_copyFrom_24 (by decide) rfl ?_
        refine V_aload_n C dX2_copyFrom_25 1 rfl ?_
        refine V_get (ci := 2) C (ok7 hj0) uX2 rfl 0 (Nat.le_of_ble_eq_true rfl) rfl rfl f11 dX2_copyFrom_26 ?_
        refine V_iload_n C dX2_copyFrom_29 3 rfl ?_
        obtain ⟨hv30, hJ⟩ := hJ
        refine V_aald (o' := (13, j0, x2_2.toNatClampNeg)) C (ok8 hj0) 3 rfl rfl hv30 rfl dX2_copyFrom_30 ?_
        refine V_aload_n C dX2_copyFrom_31 0 rfl ?_
        refine V_get (ci := 0) C (ok13 hj1 (vp_lt hv29)) uX0 rfl 0 (Nat.le_of_ble_eq_true rfl) rfl rfl f52 dX2_copyFrom_32 ?_
        refine V_aload_n C dX2_copyFrom_35 0 rfl ?_
        refine V_get (ci := 0) C (ok13 hj1 (vp_lt hv29)) uX0 rfl 1 (Nat.le_of_ble_eq_true rfl) rfl rfl f55 dX2_copyFrom_36 ?_
        refine V_aload_n C dX2_copyFrom_39 0 rfl ?_
        refine V_get (ci := 0) C (ok13 hj1 (vp_lt hv29)) uX0 rfl 2 (Nat.le_of_ble_eq_true rfl) rfl rfl f58 dX2_copyFrom_40 ?_
        refine V_cVv (st := []) (ci := 0) C (ok13 hj0 (vp_lt hv30)) ⟨Nat.zero_le _, Nat.zero_le _⟩ (M_X0_begin l D tc ad A j0 x2_2.toNatClampNeg hj0 (vp_lt hv30) (τ2 (13, j1, x2_2.toNatClampNeg) 0) (τ2 (13, j1, x2_2.toNatClampNeg) 1) (τ2 (13, j1, x2_2.toNatClampNeg) 2) hJ) (cwV 3 C.1.2.2.2.2 gX2_copyFrom_X0_begin rfl rfl rfl (by decide +kernel) ⟨Nat.le_of_ble_eq_true rfl, Nat.le_of_ble_eq_true rfl⟩) rfl rfl rfl rfl (Nat.le_of_ble_eq_true rfl) dX2_copyFrom_43 (fun τ31 hJ => ?_)
        obtain ⟨x2_32, hx2_32⟩ : ∃ y : Int32, y = x2_2 + 1 := ⟨_, rfl⟩
        replace hJ := hJ x2_32 hx2_32
        refine V_iinc (v := x2_32) (lv' := [(2, .int x2_32), (3, .ref (ad (13, j1, x2_2.toNatClampNeg))), (0, .ref (ad (7, j0, 0))), (1, .ref (ad (7, j1, 0)))]) C dX2_copyFrom_46 3 rfl (by rw [hx2_32]; exact congrArg _ ci_1) (by decide) rfl ?_
        refine V_goto C (tgt := 10) dX2_copyFrom_49 rfl ?_
        refine V_sub (lv' := [(0, .ref (ad (7, j0, 0))), (1, .ref (ad (7, j1, 0))), (2, .int x2_32)]) [2, 3, 0] rfl ?_
        exact ih10 x2_32 τ31 (Nat.lt_of_lt_of_le hJ.2 (Nat.le_of_lt_succ hμ10)) hJ.1
  exact L10 _ 0 τ1 (Nat.lt_succ_self _) hI10
set_option maxHeartbeats 4000000 in
set_option maxRecDepth 100000 in
theorem M_X5_save (l : Launch) (D : va_G) (tc : Nat → ClassId) (ad : Oid → Nat) (A : Nat → Prop) (x1 : Int32) {σ : Mem} {Qr : Int32 → Mem → Prop} (hJ : J_X5_save x1 σ Qr) : Met l yX5_save wsX5_save ({ frames := 3, cells := 0, slots := 0, locals := 67 }) (va_Pc [.ref (ad (0, 0, 0)), .int x1] (WdI D vwCl (tysX tc) idsX ad (ceX tc ad) A σ)) (va_Qi (fun (r : Int32) (u : Mem) => Qr r u) (WdO D vwCl idsX ad (ceX tc ad) A) A) 0 0 A := by
  refine V_meti (cc := cX5_save) (nL := 2) (ret := (some .int)) (own := RX5) rfl (plainFor_of_name (by decide)) rfl rfl (Nat.le_of_ble_eq_true rfl) ?_
  intro p e s m below meth c C hr hlocks
  refine V_sub (lv' := [(0, .ref (ad (0, 0, 0))), (1, .int x1)]) [0, 1] rfl ?_
  have f19 : Cond.fieldLink RX5 19 (TX5 2).1 (TX5 2).2.1 (TX5 2).2.2.1 ∈ wsX5_save := List.mem_of_getElem? (i := 1) rfl
  have uX5 : ∀ w ∈ u_ws RX5 TX5 6, w ∈ wsX5_save := by decide +kernel
  have f10 : Cond.fieldLink RX5 10 (TX5 0).1 (TX5 0).2.1 (TX5 0).2.2.1 ∈ wsX5_save := List.mem_of_getElem? (i := 2) rfl
  have f23 : Cond.fieldLink RX5 23 (TX5 3).1 (TX5 3).2.1 (TX5 3).2.2.1 ∈ wsX5_save := List.mem_of_getElem? (i := 3) rfl
  have f141 : Cond.fieldLink RX5 141 (TX2 9).1 (TX2 9).2.1 (TX2 9).2.2.1 ∈ wsX5_save := List.mem_of_getElem? (i := 4) rfl
  have uX2 : ∀ w ∈ u_ws RX2 TX2 10, w ∈ wsX5_save := by decide +kernel
  unfold J_X5_save at hJ
  refine V_iload_n C dX5_save_0 1 rfl ?_
  refine V_iconst (v := 0) C dX5_save_1 ci_0 ?_
  refine V_iconst (v := 1) C dX5_save_2 ci_1 ?_
  refine V_cSi (st := []) C ⟨Nat.zero_le _, Nat.zero_le _⟩ (M_X5_isWithin l D tc ad A x1 0 1 hJ) (va_cwS 3 C.1.2.2.2.2 gX5_save_X5_isWithin rfl rfl rfl (by decide +kernel) ⟨Nat.le_of_ble_eq_true rfl, Nat.le_of_ble_eq_true rfl⟩) rfl rfl (Nat.le_of_ble_eq_true rfl) dX5_save_3 (fun r1 τ1 hJ => ?_)
  obtain ⟨hJt, hJf⟩ := hJ
  refine V_if_ne C (tgt := 12) dX5_save_6 rfl (fun hc2 => ?_) (fun hc2 => ?_)
  · have hJ := hJt hc2; clear hJt hJf
    refine V_aload_n C dX5_save_12 0 rfl ?_
    refine V_get (ci := 5) C okX_0_0 uX5 rfl 2 (Nat.le_of_ble_eq_true rfl) rfl rfl f19 dX5_save_13 ?_
    refine V_iload_n C dX5_save_16 1 rfl ?_
    obtain ⟨hv3, hJ⟩ := hJ
    refine V_aald (o' := (7, (2 + x1.toNatClampNeg), 0)) C okX_1_0 5 rfl rfl hv3 rfl dX5_save_17 ?_
    refine V_aload_n C dX5_save_18 0 rfl ?_
    refine V_get (ci := 5) C okX_0_0 uX5 rfl 0 (Nat.le_of_ble_eq_true rfl) rfl rfl f10 dX5_save_19 ?_
    refine V_cVv (st := []) (ci := 2) C (ok7 (ok2 (vp_lt hv3))) ⟨Nat.zero_le _, Nat.zero_le _⟩ (M_X2_copyFrom l D tc ad A (2 + x1.toNatClampNeg) (ok2 (vp_lt hv3)) 0 (by decide) hJ) (cwV 1 C.1.2.2.2.2 gX5_save_X2_copyFrom rfl rfl rfl (by decide +kernel) ⟨Nat.le_of_ble_eq_true rfl, Nat.le_of_ble_eq_true rfl⟩) rfl rfl rfl rfl (Nat.le_of_ble_eq_true rfl) dX5_save_22 (fun τ4 hJ => ?_)
    refine V_aload_n C dX5_save_25 0 rfl ?_
    refine V_get (ci := 5) C okX_0_0 uX5 rfl 3 (Nat.le_of_ble_eq_true rfl) rfl rfl f23 dX5_save_26 ?_
    refine V_iload_n C dX5_save_29 1 rfl ?_
    refine V_iconst (v := 1) C dX5_save_30 ci_1 ?_
    obtain ⟨hv5, hJ⟩ := hJ
    refine V_zast C okX_2_0 1 rfl (fun _ => rfl) rfl hv5 dX5_save_31 (fun τ6 hτ6 => ?_)
    replace hJ := hJ τ6 hτ6
    refine V_aload_n C dX5_save_32 0 rfl ?_
    refine V_get (ci := 5) C okX_0_0 uX5 rfl 0 (Nat.le_of_ble_eq_true rfl) rfl rfl f10 dX5_save_33 ?_
    refine V_get (ci := 2) C (ok7 (by decide)) uX2 rfl 9 (Nat.le_of_ble_eq_true rfl) rfl rfl f141 dX5_save_36 ?_
    exact V_iret C hr hlocks dX5_save_39 hJ
  · have hJ := hJf hc2; clear hJt hJf
    refine V_bipush (v := (-101)) C dX5_save_9 cb_m101 ?_
    exact V_iret C hr hlocks dX5_save_11 hJ
set_option maxHeartbeats 4000000 in
set_option maxRecDepth 100000 in
theorem M_X5_time (l : Launch) (D : va_G) (tc : Nat → ClassId) (ad : Oid → Nat) (A : Nat → Prop) {σ : Mem} {Qr : Int32 → Mem → Prop} (hJ : J_X5_time σ Qr) : Met l yX5_time wsX5_time ({ frames := 0, cells := 0, slots := 0, locals := 0 }) (va_Pc [.ref (ad (0, 0, 0))] (WdI D vwCl (tysX tc) idsX ad (ceX tc ad) A σ)) (va_Qi (fun (r : Int32) (u : Mem) => Qr r u) (WdO D vwCl idsX ad (ceX tc ad) A) A) 0 0 A := by
  refine V_meti (cc := cX5_time) (nL := 1) (ret := (some .int)) (own := RX5) rfl (plainFor_of_name (by decide)) rfl rfl (Nat.le_of_ble_eq_true rfl) ?_
  intro p e s m below meth c C hr hlocks
  refine V_sub (lv' := [(0, .ref (ad (0, 0, 0)))]) [0] rfl ?_
  have f10 : Cond.fieldLink RX5 10 (TX5 0).1 (TX5 0).2.1 (TX5 0).2.2.1 ∈ wsX5_time := List.mem_of_getElem? (i := 1) rfl
  have uX5 : ∀ w ∈ u_ws RX5 TX5 6, w ∈ wsX5_time := by decide +kernel
  have f141 : Cond.fieldLink RX5 141 (TX2 9).1 (TX2 9).2.1 (TX2 9).2.2.1 ∈ wsX5_time := List.mem_of_getElem? (i := 2) rfl
  have uX2 : ∀ w ∈ u_ws RX2 TX2 10, w ∈ wsX5_time := by decide +kernel
  unfold J_X5_time at hJ
  refine V_aload_n C dX5_time_0 0 rfl ?_
  refine V_get (ci := 5) C okX_0_0 uX5 rfl 0 (Nat.le_of_ble_eq_true rfl) rfl rfl f10 dX5_time_1 ?_
  refine V_get (ci := 2) C (ok7 (by decide)) uX2 rfl 9 (Nat.le_of_ble_eq_true rfl) rfl rfl f141 dX5_time_4 ?_
  exact V_iret C hr hlocks dX5_time_7 hJ
set_option maxHeartbeats 4000000 in
set_option maxRecDepth 100000 in
theorem M_X2_isYounger (l : Launch) (D : va_G) (tc : Nat → ClassId) (ad : Oid → Nat) (A : Nat → Prop) (j0 : Nat) (hj0 : j0 < 4) (x1 : Int32) (x2 : Int32) {σ : Mem} {Qr : Int32 → Mem → Prop} (hJ : J_X2_isYounger j0 x1 x2 σ Qr) : Met l yX2_isYounger wsX2_isYounger ({ frames := 0, cells := 0, slots := 0, locals := 0 }) (va_Pc [.ref (ad (7, j0, 0)), .int x1, .int x2] (WdI D vwCl (tysX tc) idsX ad (ceX tc ad) A σ)) (va_Qi (fun (r : Int32) (u : Mem) => Qr r u) (WdO D vwCl idsX ad (ceX tc ad) A) A) 0 0 A := by
  refine V_meti (cc := cX2_isYounger) (nL := 5) (ret := (some .boolean)) (own := RX2) rfl (plainFor_of_name (by decide)) rfl rfl (Nat.le_of_ble_eq_true rfl) ?_
  intro p e s m below meth c C hr hlocks
  refine V_sub (lv' := [(0, .ref (ad (7, j0, 0))), (1, .int x1), (2, .int x2)]) [0, 1, 2] rfl ?_
  have f19 : Cond.fieldLink RX2 19 (TX2 1).1 (TX2 1).2.1 (TX2 1).2.2.1 ∈ wsX2_isYounger := List.mem_of_getElem? (i := 1) rfl
  have uX2 : ∀ w ∈ u_ws RX2 TX2 10, w ∈ wsX2_isYounger := by decide +kernel
  have f81 : Cond.fieldLink RX2 81 (TX4 1).1 (TX4 1).2.1 (TX4 1).2.2.1 ∈ wsX2_isYounger := List.mem_of_getElem? (i := 2) rfl
  have uX4 : ∀ w ∈ u_ws RX4 TX4 12, w ∈ wsX2_isYounger := by decide +kernel
  unfold J_X2_isYounger at hJ
  refine V_aload_n C dX2_isYounger_0 0 rfl ?_
  refine V_get (ci := 2) C (ok7 hj0) uX2 rfl 1 (Nat.le_of_ble_eq_true rfl) rfl rfl f19 dX2_isYounger_1 ?_
  refine V_iload_n C dX2_isYounger_4 1 rfl ?_
  obtain ⟨hv1, hJ⟩ := hJ
  refine V_aald (o' := (14, j0, x1.toNatClampNeg)) C (ok9 hj0) 4 rfl rfl hv1 rfl dX2_isYounger_5 ?_
  refine V_get (ci := 4) C (ok14 hj0 (vp_lt hv1)) uX4 rfl 1 (Nat.le_of_ble_eq_true rfl) rfl rfl f81 dX2_isYounger_6 ?_
  refine V_topi (fun x3_2 hx3_2 => ?_)
  replace hJ := hJ x3_2 hx3_2
  refine V_istore_n (lv' := [(3, .int x3_2), (0, .ref (ad (7, j0, 0))), (1, .int x1), (2, .int x2)]) C dX2_isYounger_9 (by decide) rfl ?_
  refine V_aload_n C dX2_isYounger_10 1 rfl ?_
  refine V_get (ci := 2) C (ok7 hj0) uX2 rfl 1 (Nat.le_of_ble_eq_true rfl) rfl rfl f19 dX2_isYounger_11 ?_
  refine V_iload_n C dX2_isYounger_14 3 rfl ?_
  obtain ⟨hv3, hJ⟩ := hJ
  refine V_aald (o' := (14, j0, x2.toNatClampNeg)) C (ok9 hj0) 4 rfl rfl hv3 rfl dX2_isYounger_15 ?_
  refine V_get (ci := 4) C (ok14 hj0 (vp_lt hv3)) uX4 rfl 1 (Nat.le_of_ble_eq_true rfl) rfl rfl f81 dX2_isYounger_16 ?_
  refine V_topi (fun x4_4 hx4_4 => ?_)
  replace hJ := hJ x4_4 hx4_4
  refine V_istore (lv' := [(4, .int x4_4), (3, .int x3_2), (0, .ref (ad (7, j0, 0))), (1, .int x1), (2, .int x2)]) C dX2_isYounger_19 (by decide) rfl ?_
  refine V_iload_n C dX2_isYounger_21 1 rfl ?_
  refine V_iload C dX2_isYounger_22 0 rfl ?_
  obtain ⟨hJt, hJf⟩ := hJ
  refine V_icmp_gt C (tgt := 38) dX2_isYounger_24 rfl (fun hc5 => ?_) (fun hc5 => ?_)
  · have hJ := hJt hc5; clear hJt hJf
    refine V_iconst (v := 1) C dX2_isYounger_38 ci_1 ?_
    refine V_goto C (tgt := 43) dX2_isYounger_39 rfl ?_
    exact V_zret C hr hlocks (Or.inr rfl) dX2_isYounger_43 hJ
  · have hJ := hJf hc5; clear hJt hJf
    refine V_iload_n C dX2_isYounger_27 1 rfl ?_
    refine V_iload C dX2_isYounger_28 0 rfl ?_
    obtain ⟨hJt, hJf⟩ := hJ
    refine V_icmp_ne C (tgt := 42) dX2_isYounger_30 rfl (fun hc6 => ?_) (fun hc6 => ?_)
    · have hJ := hJt hc6; clear hJt hJf
      refine V_iconst (v := 0) C dX2_isYounger_42 ci_0 ?_
      exact V_zret C hr hlocks (Or.inl rfl) dX2_isYounger_43 hJ
    · have hJ := hJf hc6; clear hJt hJf
      refine V_iload_n C dX2_isYounger_33 3 rfl ?_
      refine V_iload_n C dX2_isYounger_34 4 rfl ?_
      obtain ⟨hJt, hJf⟩ := hJ
      refine V_icmp_le C (tgt := 42) dX2_isYounger_35 rfl (fun hc7 => ?_) (fun hc7 => ?_)
      · have hJ := hJt hc7; clear hJt hJf
        refine V_iconst (v := 0) C dX2_isYounger_42 ci_0 ?_
        exact V_zret C hr hlocks (Or.inl rfl) dX2_isYounger_43 hJ
      · have hJ := hJf hc7; clear hJt hJf
        refine V_iconst (v := 1) C dX2_isYounger_38 ci_1 ?_
        refine V_goto C (tgt := 43) dX2_isYounger_39 rfl ?_
        exact V_zret C hr hlocks (Or.inr rfl) dX2_isYounger_43 hJ
set_option maxHeartbeats 4000000 in
set_option maxRecDepth 100000 in
theorem M_X5_gainOf (l : Launch) (D : va_G) (tc : Nat → ClassId) (ad : Oid → Nat) (A : Nat → Prop) (x1 : Int32) (x2 : Int32) {σ : Mem} {Qr : Int32 → Mem → Prop} (hJ : J_X5_gainOf x1 x2 σ Qr) : Met l yX5_gainOf wsX5_gainOf ({ frames := 4, cells := 0, slots := 0, locals := 93 }) (va_Pc [.ref (ad (0, 0, 0)), .int x1, .int x2] (WdI D vwCl (tysX tc) idsX ad (ceX tc ad) A σ)) (va_Qi (fun (r : Int32) (u : Mem) => Qr r u) (WdO D vwCl idsX ad (ceX tc ad) A) A) 0 0 A := by
  refine V_meti (cc := cX5_gainOf) (nL := 4) (ret := (some .int)) (own := RX5) rfl (plainFor_of_name (by decide)) rfl rfl (Nat.le_of_ble_eq_true rfl) ?_
  intro p e s m below meth c C hr hlocks
  refine V_sub (lv' := [(0, .ref (ad (0, 0, 0))), (1, .int x1), (2, .int x2)]) [0, 1, 2] rfl ?_
  have f30 : Cond.fieldLink RX5 30 (TX5 4).1 (TX5 4).2.1 (TX5 4).2.2.1 ∈ wsX5_gainOf := List.mem_of_getElem? (i := 1) rfl
  have uX5 : ∀ w ∈ u_ws RX5 TX5 6, w ∈ wsX5_gainOf := by decide +kernel
  have f10 : Cond.fieldLink RX5 10 (TX5 0).1 (TX5 0).2.1 (TX5 0).2.2.1 ∈ wsX5_gainOf := List.mem_of_getElem? (i := 2) rfl
  have f155 : Cond.fieldLink RX5 155 (TX1 1).1 (TX1 1).2.1 (TX1 1).2.2.1 ∈ wsX5_gainOf := List.mem_of_getElem? (i := 3) rfl
  have uX1 : ∀ w ∈ u_ws RX1 TX1 6, w ∈ wsX5_gainOf := by decide +kernel
  have f16 : Cond.fieldLink RX5 16 (TX5 1).1 (TX5 1).2.1 (TX5 1).2.2.1 ∈ wsX5_gainOf := List.mem_of_getElem? (i := 4) rfl
  have f92 : Cond.fieldLink RX5 92 (TX2 1).1 (TX2 1).2.1 (TX2 1).2.2.1 ∈ wsX5_gainOf := List.mem_of_getElem? (i := 5) rfl
  have uX2 : ∀ w ∈ u_ws RX2 TX2 10, w ∈ wsX5_gainOf := by decide +kernel
  have f203 : Cond.fieldLink RX5 203 (TX4 11).1 (TX4 11).2.1 (TX4 11).2.2.1 ∈ wsX5_gainOf := List.mem_of_getElem? (i := 6) rfl
  have uX4 : ∀ w ∈ u_ws RX4 TX4 12, w ∈ wsX5_gainOf := by decide +kernel
  unfold J_X5_gainOf at hJ
  refine V_aload_n C dX5_gainOf_0 0 rfl ?_
  refine V_get (ci := 5) C okX_0_0 uX5 rfl 4 (Nat.le_of_ble_eq_true rfl) rfl rfl f30 dX5_gainOf_1 ?_
  refine V_aload_n C dX5_gainOf_4 0 rfl ?_
  refine V_get (ci := 5) C okX_0_0 uX5 rfl 0 (Nat.le_of_ble_eq_true rfl) rfl rfl f10 dX5_gainOf_5 ?_
  refine V_cVv (st := []) (ci := 1) C okX_3_0 ⟨Nat.zero_le _, Nat.zero_le _⟩ (M_X1_distribute l D tc ad A 0 (by decide) hJ) (cwV 1 C.1.2.2.2.2 gX5_gainOf_X1_distribute rfl rfl rfl (by decide +kernel) ⟨Nat.le_of_ble_eq_true rfl, Nat.le_of_ble_eq_true rfl⟩) rfl rfl rfl rfl (Nat.le_of_ble_eq_true rfl) dX5_gainOf_8 (fun τ1 hJ => ?_)
  refine V_aload_n C dX5_gainOf_11 0 rfl ?_
  refine V_get (ci := 5) C okX_0_0 uX5 rfl 4 (Nat.le_of_ble_eq_true rfl) rfl rfl f30 dX5_gainOf_12 ?_
  refine V_get (ci := 1) C okX_3_0 uX1 rfl 1 (Nat.le_of_ble_eq_true rfl) rfl rfl f155 dX5_gainOf_15 ?_
  refine V_iload_n C dX5_gainOf_18 1 rfl ?_
  obtain ⟨hv2, hJ⟩ := hJ
  refine V_iald C okX_4_1 0 rfl rfl rfl hv2 dX5_gainOf_19 ?_
  refine V_topi (fun x3_3 hx3_3 => ?_)
  replace hJ := hJ x3_3 hx3_3
  refine V_istore_n (lv' := [(3, .int x3_3), (0, .ref (ad (0, 0, 0))), (1, .int x1), (2, .int x2)]) C dX5_gainOf_20 (by decide) rfl ?_
  refine V_aload_n C dX5_gainOf_21 1 rfl ?_
  refine V_get (ci := 5) C okX_0_0 uX5 rfl 1 (Nat.le_of_ble_eq_true rfl) rfl rfl f16 dX5_gainOf_22 ?_
  refine V_aload_n C dX5_gainOf_25 1 rfl ?_
  refine V_get (ci := 5) C okX_0_0 uX5 rfl 0 (Nat.le_of_ble_eq_true rfl) rfl rfl f10 dX5_gainOf_26 ?_
  refine V_cVv (st := []) (ci := 2) C (ok7 (by decide)) ⟨Nat.zero_le _, Nat.zero_le _⟩ (M_X2_copyFrom l D tc ad A 1 (by decide) 0 (by decide) hJ) (cwV 1 C.1.2.2.2.2 gX5_gainOf_X2_copyFrom rfl rfl rfl (by decide +kernel) ⟨Nat.le_of_ble_eq_true rfl, Nat.le_of_ble_eq_true rfl⟩) rfl rfl rfl rfl (Nat.le_of_ble_eq_true rfl) dX5_gainOf_29 (fun τ4 hJ => ?_)
  refine V_aload_n C dX5_gainOf_32 1 rfl ?_
  refine V_get (ci := 5) C okX_0_0 uX5 rfl 1 (Nat.le_of_ble_eq_true rfl) rfl rfl f16 dX5_gainOf_33 ?_
  refine V_get (ci := 2) C (ok7 (by decide)) uX2 rfl 1 (Nat.le_of_ble_eq_true rfl) rfl rfl f92 dX5_gainOf_36 ?_
  refine V_iload_n C dX5_gainOf_39 3 rfl ?_
  obtain ⟨hv5, hJ⟩ := hJ
  refine V_aald (o' := (14, 1, x2.toNatClampNeg)) C (ok9 (by decide)) 4 rfl rfl hv5 rfl dX5_gainOf_40 ?_
  refine V_iconst (v := 1) C dX5_gainOf_41 ci_1 ?_
  refine V_put (ci := 4) C (ok14 (by decide) (vp_lt hv5)) uX4 tyX4 tyX4_ok nmX4 rfl 11 (Nat.le_of_ble_eq_true rfl) rfl rfl f203 rfl (ty := .boolean) (by decide +kernel) (isB_narrow (Or.inr rfl)) (isB_fits (Or.inr rfl)) (Nat.le_of_ble_eq_true rfl) dX5_gainOf_42 (fun τ6 hτ6 => ?_)
  replace hJ := hJ τ6 hτ6
  refine V_aload_n C dX5_gainOf_45 1 rfl ?_
  refine V_get (ci := 5) C okX_0_0 uX5 rfl 4 (Nat.le_of_ble_eq_true rfl) rfl rfl f30 dX5_gainOf_46 ?_
  refine V_aload_n C dX5_gainOf_49 1 rfl ?_
  refine V_get (ci := 5) C okX_0_0 uX5 rfl 1 (Nat.le_of_ble_eq_true rfl) rfl rfl f16 dX5_gainOf_50 ?_
  refine V_cVv (st := []) (ci := 1) C okX_3_0 ⟨Nat.zero_le _, Nat.zero_le _⟩ (M_X1_distribute l D tc ad A 1 (by decide) hJ) (cwV 1 C.1.2.2.2.2 gX5_gainOf_X1_distribute rfl rfl rfl (by decide +kernel) ⟨Nat.le_of_ble_eq_true rfl, Nat.le_of_ble_eq_true rfl⟩) rfl rfl rfl rfl (Nat.le_of_ble_eq_true rfl) dX5_gainOf_53 (fun τ7 hJ => ?_)
  refine V_aload_n C dX5_gainOf_56 1 rfl ?_
  refine V_get (ci := 5) C okX_0_0 uX5 rfl 4 (Nat.le_of_ble_eq_true rfl) rfl rfl f30 dX5_gainOf_57 ?_
  refine V_get (ci := 1) C okX_3_0 uX1 rfl 1 (Nat.le_of_ble_eq_true rfl) rfl rfl f155 dX5_gainOf_60 ?_
  refine V_iload_n C dX5_gainOf_63 2 rfl ?_
  obtain ⟨hv8, hJ⟩ := hJ
  refine V_iald C okX_4_1 0 rfl rfl rfl hv8 dX5_gainOf_64 ?_
  refine V_iload_n C dX5_gainOf_65 0 rfl ?_
  refine V_isub C dX5_gainOf_66 ?_
  exact V_iret C hr hlocks dX5_gainOf_67 hJ
set_option maxHeartbeats 4000000 in
set_option maxRecDepth 100000 in
theorem M_X5_gain (l : Launch) (D : va_G) (tc : Nat → ClassId) (ad : Oid → Nat) (A : Nat → Prop) (x1 : Int32) (x2 : Int32) {σ : Mem} {Qr : Int32 → Mem → Prop} (hJ : J_X5_gain x1 x2 σ Qr) : Met l yX5_gain wsX5_gain ({ frames := 5, cells := 0, slots := 0, locals := 116 }) (va_Pc [.ref (ad (0, 0, 0)), .int x1, .int x2] (WdI D vwCl (tysX tc) idsX ad (ceX tc ad) A σ)) (va_Qi (fun (r : Int32) (u : Mem) => Qr r u) (WdO D vwCl idsX ad (ceX tc ad) A) A) 0 0 A := by
  refine V_meti (cc := cX5_gain) (nL := 3) (ret := (some .int)) (own := RX5) rfl (plainFor_of_name (by decide)) rfl rfl (Nat.le_of_ble_eq_true rfl) ?_
  intro p e s m below meth c C hr hlocks
  refine V_sub (lv' := [(0, .ref (ad (0, 0, 0))), (1, .int x1), (2, .int x2)]) [0, 1, 2] rfl ?_
  have f10 : Cond.fieldLink RX5 10 (TX5 0).1 (TX5 0).2.1 (TX5 0).2.2.1 ∈ wsX5_gain := List.mem_of_getElem? (i := 1) rfl
  have uX5 : ∀ w ∈ u_ws RX5 TX5 6, w ∈ wsX5_gain := by decide +kernel
  unfold J_X5_gain at hJ
  refine V_aload_n C dX5_gain_0 0 rfl ?_
  refine V_get (ci := 5) C okX_0_0 uX5 rfl 0 (Nat.le_of_ble_eq_true rfl) rfl rfl f10 dX5_gain_1 ?_
  refine V_iload_n C dX5_gain_4 1 rfl ?_
  refine V_cVi (st := []) (ci := 2) C (ok7 (by decide)) ⟨Nat.zero_le _, Nat.zero_le _⟩ (M_X2_hasUser l D tc ad A 0 (by decide) x1 hJ) (cwV 1 C.1.2.2.2.2 gX5_gain_X2_hasUser rfl rfl rfl (by decide +kernel) ⟨Nat.le_of_ble_eq_true rfl, Nat.le_of_ble_eq_true rfl⟩) rfl rfl rfl rfl (Nat.le_of_ble_eq_true rfl) dX5_gain_5 (fun r1 τ1 hJ => ?_)
  obtain ⟨hJt, hJf⟩ := hJ
  refine V_if_eq C (tgt := 22) dX5_gain_8 rfl (fun hc2 => ?_) (fun hc2 => ?_)
  · have hJ := hJt hc2; clear hJt hJf
    refine V_bipush (v := (-101)) C dX5_gain_22 cb_m101 ?_
    exact V_iret C hr hlocks dX5_gain_24 hJ
  · have hJ := hJf hc2; clear hJt hJf
    refine V_aload_n C dX5_gain_11 0 rfl ?_
    refine V_get (ci := 5) C okX_0_0 uX5 rfl 0 (Nat.le_of_ble_eq_true rfl) rfl rfl f10 dX5_gain_12 ?_
    refine V_iload_n C dX5_gain_15 2 rfl ?_
    refine V_cVi (st := []) (ci := 2) C (ok7 (by decide)) ⟨Nat.zero_le _, Nat.zero_le _⟩ (M_X2_hasUser l D tc ad A 0 (by decide) x2 hJ) (cwV 1 C.1.2.2.2.2 gX5_gain_X2_hasUser rfl rfl rfl (by decide +kernel) ⟨Nat.le_of_ble_eq_true rfl, Nat.le_of_ble_eq_true rfl⟩) rfl rfl rfl rfl (Nat.le_of_ble_eq_true rfl) dX5_gain_16 (fun r3 τ3 hJ => ?_)
    obtain ⟨hJt, hJf⟩ := hJ
    refine V_if_ne C (tgt := 25) dX5_gain_19 rfl (fun hc4 => ?_) (fun hc4 => ?_)
    · have hJ := hJt hc4; clear hJt hJf
      refine V_aload_n C dX5_gain_25 0 rfl ?_
      refine V_get (ci := 5) C okX_0_0 uX5 rfl 0 (Nat.le_of_ble_eq_true rfl) rfl rfl f10 dX5_gain_26 ?_
      refine V_iload_n C dX5_gain_29 2 rfl ?_
      refine V_iload_n C dX5_gain_30 1 rfl ?_
      refine V_cVi (st := []) (ci := 2) C (ok7 (by decide)) ⟨Nat.zero_le _, Nat.zero_le _⟩ (M_X2_isYounger l D tc ad A 0 (by decide) x2 x1 hJ) (cwV 2 C.1.2.2.2.2 gX5_gain_X2_isYounger rfl rfl rfl (by decide +kernel) ⟨Nat.le_of_ble_eq_true rfl, Nat.le_of_ble_eq_true rfl⟩) rfl rfl rfl rfl (Nat.le_of_ble_eq_true rfl) dX5_gain_31 (fun r5 τ5 hJ => ?_)
      obtain ⟨hJt, hJf⟩ := hJ
      refine V_if_ne C (tgt := 40) dX5_gain_34 rfl (fun hc6 => ?_) (fun hc6 => ?_)
      · have hJ := hJt hc6; clear hJt hJf
        refine V_aload_n C dX5_gain_40 0 rfl ?_
        refine V_iload_n C dX5_gain_41 1 rfl ?_
        refine V_iload_n C dX5_gain_42 2 rfl ?_
        refine V_cVi (st := []) (ci := 5) C okX_0_0 ⟨Nat.zero_le _, Nat.zero_le _⟩ (M_X5_gainOf l D tc ad A x1 x2 hJ) (cwV 2 C.1.2.2.2.2 gX5_gain_X5_gainOf rfl rfl rfl (by decide +kernel) ⟨Nat.le_of_ble_eq_true rfl, Nat.le_of_ble_eq_true rfl⟩) rfl rfl rfl rfl (Nat.le_of_ble_eq_true rfl) dX5_gain_43 (fun r7 τ7 hJ => ?_)
        exact V_iret C hr hlocks dX5_gain_46 hJ
      · have hJ := hJf hc6; clear hJt hJf
        refine V_bipush (v := (-103)) C dX5_gain_37 cb_m103 ?_
        exact V_iret C hr hlocks dX5_gain_39 hJ
    · have hJ := hJf hc4; clear hJt hJf
      refine V_bipush (v := (-101)) C dX5_gain_22 cb_m101 ?_
      exact V_iret C hr hlocks dX5_gain_24 hJ
set_option maxHeartbeats 4000000 in
set_option maxRecDepth 100000 in
theorem M_X1_isContent (l : Launch) (D : va_G) (tc : Nat → ClassId) (ad : Oid → Nat) (A : Nat → Prop) (x1 : Int32) {σ : Mem} {Qr : Int32 → Mem → Prop} (hJ : J_X1_isContent x1 σ Qr) : Met l yX1_isContent wsX1_isContent ({ frames := 0, cells := 0, slots := 0, locals := 0 }) (va_Pc [.ref (ad (3, 0, 0)), .int x1] (WdI D vwCl (tysX tc) idsX ad (ceX tc ad) A σ)) (va_Qi (fun (r : Int32) (u : Mem) => Qr r u) (WdO D vwCl idsX ad (ceX tc ad) A) A) 0 0 A := by
  refine V_meti (cc := cX1_isContent) (nL := 2) (ret := (some .boolean)) (own := RX1) rfl (plainFor_of_name (by decide)) rfl rfl (Nat.le_of_ble_eq_true rfl) ?_
  intro p e s m below meth c C hr hlocks
  refine V_sub (lv' := [(0, .ref (ad (3, 0, 0))), (1, .int x1)]) [0, 1] rfl ?_
  have f15 : Cond.fieldLink RX1 15 (TX1 1).1 (TX1 1).2.1 (TX1 1).2.2.1 ∈ wsX1_isContent := List.mem_of_getElem? (i := 1) rfl
  have uX1 : ∀ w ∈ u_ws RX1 TX1 6, w ∈ wsX1_isContent := by decide +kernel
  have f9 : Cond.fieldLink RX1 9 (TX1 0).1 (TX1 0).2.1 (TX1 0).2.2.1 ∈ wsX1_isContent := List.mem_of_getElem? (i := 2) rfl
  unfold J_X1_isContent at hJ
  refine V_aload_n C dX1_isContent_0 0 rfl ?_
  refine V_get (ci := 1) C okX_3_0 uX1 rfl 1 (Nat.le_of_ble_eq_true rfl) rfl rfl f15 dX1_isContent_1 ?_
  refine V_iload_n C dX1_isContent_4 1 rfl ?_
  obtain ⟨hv1, hJ⟩ := hJ
  refine V_iald C okX_4_1 0 rfl rfl rfl hv1 dX1_isContent_5 ?_
  refine V_aload_n C dX1_isContent_6 0 rfl ?_
  refine V_get (ci := 1) C okX_3_0 uX1 rfl 0 (Nat.le_of_ble_eq_true rfl) rfl rfl f9 dX1_isContent_7 ?_
  refine V_iload_n C dX1_isContent_10 1 rfl ?_
  obtain ⟨hv2, hJ⟩ := hJ
  refine V_iald C okX_4_0 0 rfl rfl rfl hv2 dX1_isContent_11 ?_
  obtain ⟨hJt, hJf⟩ := hJ
  refine V_icmp_ne C (tgt := 19) dX1_isContent_12 rfl (fun hc3 => ?_) (fun hc3 => ?_)
  · have hJ := hJt hc3; clear hJt hJf
    refine V_iconst (v := 0) C dX1_isContent_19 ci_0 ?_
    exact V_zret C hr hlocks (Or.inl rfl) dX1_isContent_20 hJ
  · have hJ := hJf hc3; clear hJt hJf
    refine V_iconst (v := 1) C dX1_isContent_15 ci_1 ?_
    refine V_goto C (tgt := 20) dX1_isContent_16 rfl ?_
    exact V_zret C hr hlocks (Or.inr rfl) dX1_isContent_20 hJ
set_option maxHeartbeats 4000000 in
set_option maxRecDepth 100000 in
theorem M_X5_judge (l : Launch) (D : va_G) (tc : Nat → ClassId) (ad : Oid → Nat) (A : Nat → Prop) (x1 : Int32) (x2 : Int32) {σ : Mem} {Qr : Int32 → Mem → Prop} (hJ : J_X5_judge x1 x2 σ Qr) : Met l yX5_judge wsX5_judge ({ frames := 5, cells := 0, slots := 0, locals := 116 }) (va_Pc [.ref (ad (0, 0, 0)), .int x1, .int x2] (WdI D vwCl (tysX tc) idsX ad (ceX tc ad) A σ)) (va_Qi (fun (r : Int32) (u : Mem) => Qr r u) (WdO D vwCl idsX ad (ceX tc ad) A) A) 0 0 A := by
  refine V_meti (cc := cX5_judge) (nL := 5) (ret := (some .int)) (own := RX5) rfl (plainFor_of_name (by decide)) rfl rfl (Nat.le_of_ble_eq_true rfl) ?_
  intro p e s m below meth c C hr hlocks
  refine V_sub (lv' := [(0, .ref (ad (0, 0, 0))), (1, .int x1), (2, .int x2)]) [0, 1, 2] rfl ?_
  have f30 : Cond.fieldLink RX5 30 (TX5 4).1 (TX5 4).2.1 (TX5 4).2.2.1 ∈ wsX5_judge := List.mem_of_getElem? (i := 1) rfl
  have uX5 : ∀ w ∈ u_ws RX5 TX5 6, w ∈ wsX5_judge := by decide +kernel
  have f10 : Cond.fieldLink RX5 10 (TX5 0).1 (TX5 0).2.1 (TX5 0).2.2.1 ∈ wsX5_judge := List.mem_of_getElem? (i := 2) rfl
  have f155 : Cond.fieldLink RX5 155 (TX1 1).1 (TX1 1).2.1 (TX1 1).2.2.1 ∈ wsX5_judge := List.mem_of_getElem? (i := 3) rfl
  have uX1 : ∀ w ∈ u_ws RX1 TX1 6, w ∈ wsX5_judge := by decide +kernel
  have f135 : Cond.fieldLink RX5 135 (TX2 8).1 (TX2 8).2.1 (TX2 8).2.2.1 ∈ wsX5_judge := List.mem_of_getElem? (i := 4) rfl
  have uX2 : ∀ w ∈ u_ws RX2 TX2 10, w ∈ wsX5_judge := by decide +kernel
  unfold J_X5_judge at hJ
  refine V_aload_n C dX5_judge_0 0 rfl ?_
  refine V_get (ci := 5) C okX_0_0 uX5 rfl 4 (Nat.le_of_ble_eq_true rfl) rfl rfl f30 dX5_judge_1 ?_
  refine V_aload_n C dX5_judge_4 0 rfl ?_
  refine V_get (ci := 5) C okX_0_0 uX5 rfl 0 (Nat.le_of_ble_eq_true rfl) rfl rfl f10 dX5_judge_5 ?_
  refine V_cVv (st := []) (ci := 1) C okX_3_0 ⟨Nat.zero_le _, Nat.zero_le _⟩ (M_X1_distribute l D tc ad A 0 (by decide) hJ) (cwV 1 C.1.2.2.2.2 gX5_judge_X1_distribute rfl rfl rfl (by decide +kernel) ⟨Nat.le_of_ble_eq_true rfl, Nat.le_of_ble_eq_true rfl⟩) rfl rfl rfl rfl (Nat.le_of_ble_eq_true rfl) dX5_judge_8 (fun τ1 hJ => ?_)
  refine V_aload_n C dX5_judge_11 0 rfl ?_
  refine V_get (ci := 5) C okX_0_0 uX5 rfl 4 (Nat.le_of_ble_eq_true rfl) rfl rfl f30 dX5_judge_12 ?_
  refine V_get (ci := 1) C okX_3_0 uX1 rfl 1 (Nat.le_of_ble_eq_true rfl) rfl rfl f155 dX5_judge_15 ?_
  refine V_iload_n C dX5_judge_18 2 rfl ?_
  obtain ⟨hv2, hJ⟩ := hJ
  refine V_iald C okX_4_1 0 rfl rfl rfl hv2 dX5_judge_19 ?_
  refine V_topi (fun x3_3 hx3_3 => ?_)
  replace hJ := hJ x3_3 hx3_3
  refine V_istore_n (lv' := [(3, .int x3_3), (0, .ref (ad (0, 0, 0))), (1, .int x1), (2, .int x2)]) C dX5_judge_20 (by decide) rfl ?_
  refine V_aload_n C dX5_judge_21 1 rfl ?_
  refine V_get (ci := 5) C okX_0_0 uX5 rfl 4 (Nat.le_of_ble_eq_true rfl) rfl rfl f30 dX5_judge_22 ?_
  refine V_iload_n C dX5_judge_25 2 rfl ?_
  refine V_cVi (st := []) (ci := 1) C okX_3_0 ⟨Nat.zero_le _, Nat.zero_le _⟩ (M_X1_isContent l D tc ad A x1 hJ) (cwV 1 C.1.2.2.2.2 gX5_judge_X1_isContent rfl rfl rfl (by decide +kernel) ⟨Nat.le_of_ble_eq_true rfl, Nat.le_of_ble_eq_true rfl⟩) rfl rfl rfl rfl (Nat.le_of_ble_eq_true rfl) dX5_judge_26 (fun r4 τ4 hJ => ?_)
  obtain ⟨hJt, hJf⟩ := hJ
  refine V_if_ne C (tgt := 36) dX5_judge_29 rfl (fun hc5 => ?_) (fun hc5 => ?_)
  · have hJ := hJt hc5; clear hJt hJf
    refine V_iconst (v := 0) C dX5_judge_36 ci_0 ?_
    exact V_iret C hr hlocks dX5_judge_37 hJ
  · have hJ := hJf hc5; clear hJt hJf
    refine V_iload_n C dX5_judge_32 0 rfl ?_
    obtain ⟨hJt, hJf⟩ := hJ
    refine V_if_ne C (tgt := 38) dX5_judge_33 rfl (fun hc6 => ?_) (fun hc6 => ?_)
    · have hJ := hJt hc6; clear hJt hJf
      refine V_aload_n C dX5_judge_38 1 rfl ?_
      refine V_iload_n C dX5_judge_39 2 rfl ?_
      refine V_iload_n C dX5_judge_40 3 rfl ?_
      refine V_cVi (st := []) (ci := 5) C okX_0_0 ⟨Nat.zero_le _, Nat.zero_le _⟩ (M_X5_gainOf l D tc ad A x1 x2 hJ) (cwV 2 C.1.2.2.2.2 gX5_judge_X5_gainOf rfl rfl rfl (by decide +kernel) ⟨Nat.le_of_ble_eq_true rfl, Nat.le_of_ble_eq_true rfl⟩) rfl rfl rfl rfl (Nat.le_of_ble_eq_true rfl) dX5_judge_41 (fun r7 τ7 hJ => ?_)
      refine V_istore (lv' := [(4, .int r7), (3, .int x3_3), (0, .ref (ad (0, 0, 0))), (1, .int x1), (2, .int x2)]) C dX5_judge_44 (by decide) rfl ?_
      refine V_iload C dX5_judge_46 0 rfl ?_
      obtain ⟨hJt, hJf⟩ := hJ
      refine V_if_eq C (tgt := 68) dX5_judge_48 rfl (fun hc8 => ?_) (fun hc8 => ?_)
      · have hJ := hJt hc8; clear hJt hJf
        refine V_iconst (v := 1) C dX5_judge_68 ci_1 ?_
        refine V_goto C (tgt := 73) dX5_judge_69 rfl ?_
        exact V_iret C hr hlocks dX5_judge_73 hJ
      · have hJ := hJf hc8; clear hJt hJf
        refine V_bipush (v := 100) C dX5_judge_51 cb_100 ?_
        refine V_iload C dX5_judge_53 0 rfl ?_
        refine V_imul C dX5_judge_55 ?_
        refine V_aload_n C dX5_judge_56 2 rfl ?_
        refine V_get (ci := 5) C okX_0_0 uX5 rfl 0 (Nat.le_of_ble_eq_true rfl) rfl rfl f10 dX5_judge_57 ?_
        refine V_get (ci := 2) C (ok7 (by decide)) uX2 rfl 8 (Nat.le_of_ble_eq_true rfl) rfl rfl f135 dX5_judge_60 ?_
        refine V_iload_n C dX5_judge_63 1 rfl ?_
        refine V_imul C dX5_judge_64 ?_
        obtain ⟨hJt, hJf⟩ := hJ
        refine V_icmp_ge C (tgt := 72) dX5_judge_65 rfl (fun hc9 => ?_) (fun hc9 => ?_)
        · have hJ := hJt hc9; clear hJt hJf
          refine V_iconst (v := 2) C dX5_judge_72 ci_2 ?_
          exact V_iret C hr hlocks dX5_judge_73 hJ
        · have hJ := hJf hc9; clear hJt hJf
          refine V_iconst (v := 1) C dX5_judge_68 ci_1 ?_
          refine V_goto C (tgt := 73) dX5_judge_69 rfl ?_
          exact V_iret C hr hlocks dX5_judge_73 hJ
    · have hJ := hJf hc6; clear hJt hJf
      refine V_iconst (v := 0) C dX5_judge_36 ci_0 ?_
      exact V_iret C hr hlocks dX5_judge_37 hJ
set_option maxHeartbeats 4000000 in
set_option maxRecDepth 100000 in
theorem M_X5_complaint (l : Launch) (D : va_G) (tc : Nat → ClassId) (ad : Oid → Nat) (A : Nat → Prop) (x1 : Int32) (x2 : Int32) {σ : Mem} {Qr : Int32 → Mem → Prop} (hJ : J_X5_complaint x1 x2 σ Qr) : Met l yX5_complaint wsX5_complaint ({ frames := 6, cells := 0, slots := 0, locals := 140 }) (va_Pc [.ref (ad (0, 0, 0)), .int x1, .int x2] (WdI D vwCl (tysX tc) idsX ad (ceX tc ad) A σ)) (va_Qi (fun (r : Int32) (u : Mem) => Qr r u) (WdO D vwCl idsX ad (ceX tc ad) A) A) 0 0 A := by
  refine V_meti (cc := cX5_complaint) (nL := 3) (ret := (some .int)) (own := RX5) rfl (plainFor_of_name (by decide)) rfl rfl (Nat.le_of_ble_eq_true rfl) ?_
  intro p e s m below meth c C hr hlocks
  refine V_sub (lv' := [(0, .ref (ad (0, 0, 0))), (1, .int x1), (2, .int x2)]) [0, 1, 2] rfl ?_
  have f10 : Cond.fieldLink RX5 10 (TX5 0).1 (TX5 0).2.1 (TX5 0).2.2.1 ∈ wsX5_complaint := List.mem_of_getElem? (i := 1) rfl
  have uX5 : ∀ w ∈ u_ws RX5 TX5 6, w ∈ wsX5_complaint := by decide +kernel
  unfold J_X5_complaint at hJ
  refine V_aload_n C dX5_complaint_0 0 rfl ?_
  refine V_get (ci := 5) C okX_0_0 uX5 rfl 0 (Nat.le_of_ble_eq_true rfl) rfl rfl f10 dX5_complaint_1 ?_
  refine V_iload_n C dX5_complaint_4 1 rfl ?_
  refine V_cVi (st := []) (ci := 2) C (ok7 (by decide)) ⟨Nat.zero_le _, Nat.zero_le _⟩ (M_X2_hasUser l D tc ad A 0 (by decide) x1 hJ) (cwV 1 C.1.2.2.2.2 gX5_complaint_X2_hasUser rfl rfl rfl (by decide +kernel) ⟨Nat.le_of_ble_eq_true rfl, Nat.le_of_ble_eq_true rfl⟩) rfl rfl rfl rfl (Nat.le_of_ble_eq_true rfl) dX5_complaint_5 (fun r1 τ1 hJ => ?_)
  obtain ⟨hJt, hJf⟩ := hJ
  refine V_if_eq C (tgt := 22) dX5_complaint_8 rfl (fun hc2 => ?_) (fun hc2 => ?_)
  · have hJ := hJt hc2; clear hJt hJf
    refine V_bipush (v := (-101)) C dX5_complaint_22 cb_m101 ?_
    exact V_iret C hr hlocks dX5_complaint_24 hJ
  · have hJ := hJf hc2; clear hJt hJf
    refine V_aload_n C dX5_complaint_11 0 rfl ?_
    refine V_get (ci := 5) C okX_0_0 uX5 rfl 0 (Nat.le_of_ble_eq_true rfl) rfl rfl f10 dX5_complaint_12 ?_
    refine V_iload_n C dX5_complaint_15 2 rfl ?_
    refine V_cVi (st := []) (ci := 2) C (ok7 (by decide)) ⟨Nat.zero_le _, Nat.zero_le _⟩ (M_X2_hasUser l D tc ad A 0 (by decide) x2 hJ) (cwV 1 C.1.2.2.2.2 gX5_complaint_X2_hasUser rfl rfl rfl (by decide +kernel) ⟨Nat.le_of_ble_eq_true rfl, Nat.le_of_ble_eq_true rfl⟩) rfl rfl rfl rfl (Nat.le_of_ble_eq_true rfl) dX5_complaint_16 (fun r3 τ3 hJ => ?_)
    obtain ⟨hJt, hJf⟩ := hJ
    refine V_if_ne C (tgt := 25) dX5_complaint_19 rfl (fun hc4 => ?_) (fun hc4 => ?_)
    · have hJ := hJt hc4; clear hJt hJf
      refine V_aload_n C dX5_complaint_25 0 rfl ?_
      refine V_get (ci := 5) C okX_0_0 uX5 rfl 0 (Nat.le_of_ble_eq_true rfl) rfl rfl f10 dX5_complaint_26 ?_
      refine V_iload_n C dX5_complaint_29 2 rfl ?_
      refine V_iload_n C dX5_complaint_30 1 rfl ?_
      refine V_cVi (st := []) (ci := 2) C (ok7 (by decide)) ⟨Nat.zero_le _, Nat.zero_le _⟩ (M_X2_isYounger l D tc ad A 0 (by decide) x2 x1 hJ) (cwV 2 C.1.2.2.2.2 gX5_complaint_X2_isYounger rfl rfl rfl (by decide +kernel) ⟨Nat.le_of_ble_eq_true rfl, Nat.le_of_ble_eq_true rfl⟩) rfl rfl rfl rfl (Nat.le_of_ble_eq_true rfl) dX5_complaint_31 (fun r5 τ5 hJ => ?_)
      obtain ⟨hJt, hJf⟩ := hJ
      refine V_if_ne C (tgt := 40) dX5_complaint_34 rfl (fun hc6 => ?_) (fun hc6 => ?_)
      · have hJ := hJt hc6; clear hJt hJf
        refine V_aload_n C dX5_complaint_40 0 rfl ?_
        refine V_iload_n C dX5_complaint_41 1 rfl ?_
        refine V_iload_n C dX5_complaint_42 2 rfl ?_
        refine V_cVi (st := []) (ci := 5) C okX_0_0 ⟨Nat.zero_le _, Nat.zero_le _⟩ (M_X5_judge l D tc ad A x1 x2 hJ) (cwV 2 C.1.2.2.2.2 gX5_complaint_X5_judge rfl rfl rfl (by decide +kernel) ⟨Nat.le_of_ble_eq_true rfl, Nat.le_of_ble_eq_true rfl⟩) rfl rfl rfl rfl (Nat.le_of_ble_eq_true rfl) dX5_complaint_43 (fun r7 τ7 hJ => ?_)
        exact V_iret C hr hlocks dX5_complaint_46 hJ
      · have hJ := hJf hc6; clear hJt hJf
        refine V_bipush (v := (-103)) C dX5_complaint_37 cb_m103 ?_
        exact V_iret C hr hlocks dX5_complaint_39 hJ
    · have hJ := hJf hc4; clear hJt hJf
      refine V_bipush (v := (-101)) C dX5_complaint_22 cb_m101 ?_
      exact V_iret C hr hlocks dX5_complaint_24 hJ
set_option maxHeartbeats 4000000 in
set_option maxRecDepth 100000 in
theorem M_X5_restore (l : Launch) (D : va_G) (tc : Nat → ClassId) (ad : Oid → Nat) (A : Nat → Prop) (x1 : Int32) {σ : Mem} {Qr : Int32 → Mem → Prop} (hJ : J_X5_restore x1 σ Qr) : Met l yX5_restore wsX5_restore ({ frames := 3, cells := 0, slots := 0, locals := 67 }) (va_Pc [.ref (ad (0, 0, 0)), .int x1] (WdI D vwCl (tysX tc) idsX ad (ceX tc ad) A σ)) (va_Qi (fun (r : Int32) (u : Mem) => Qr r u) (WdO D vwCl idsX ad (ceX tc ad) A) A) 0 0 A := by
  refine V_meti (cc := cX5_restore) (nL := 2) (ret := (some .int)) (own := RX5) rfl (plainFor_of_name (by decide)) rfl rfl (Nat.le_of_ble_eq_true rfl) ?_
  intro p e s m below meth c C hr hlocks
  refine V_sub (lv' := [(0, .ref (ad (0, 0, 0))), (1, .int x1)]) [0, 1] rfl ?_
  have f23 : Cond.fieldLink RX5 23 (TX5 3).1 (TX5 3).2.1 (TX5 3).2.2.1 ∈ wsX5_restore := List.mem_of_getElem? (i := 1) rfl
  have uX5 : ∀ w ∈ u_ws RX5 TX5 6, w ∈ wsX5_restore := by decide +kernel
  have f10 : Cond.fieldLink RX5 10 (TX5 0).1 (TX5 0).2.1 (TX5 0).2.2.1 ∈ wsX5_restore := List.mem_of_getElem? (i := 2) rfl
  have f19 : Cond.fieldLink RX5 19 (TX5 2).1 (TX5 2).2.1 (TX5 2).2.2.1 ∈ wsX5_restore := List.mem_of_getElem? (i := 3) rfl
  have f141 : Cond.fieldLink RX5 141 (TX2 9).1 (TX2 9).2.1 (TX2 9).2.2.1 ∈ wsX5_restore := List.mem_of_getElem? (i := 4) rfl
  have uX2 : ∀ w ∈ u_ws RX2 TX2 10, w ∈ wsX5_restore := by decide +kernel
  unfold J_X5_restore at hJ
  refine V_iload_n C dX5_restore_0 1 rfl ?_
  refine V_iconst (v := 0) C dX5_restore_1 ci_0 ?_
  refine V_iconst (v := 1) C dX5_restore_2 ci_1 ?_
  refine V_cSi (st := []) C ⟨Nat.zero_le _, Nat.zero_le _⟩ (M_X5_isWithin l D tc ad A x1 0 1 hJ) (va_cwS 3 C.1.2.2.2.2 gX5_restore_X5_isWithin rfl rfl rfl (by decide +kernel) ⟨Nat.le_of_ble_eq_true rfl, Nat.le_of_ble_eq_true rfl⟩) rfl rfl (Nat.le_of_ble_eq_true rfl) dX5_restore_3 (fun r1 τ1 hJ => ?_)
  obtain ⟨hJt, hJf⟩ := hJ
  refine V_if_ne C (tgt := 12) dX5_restore_6 rfl (fun hc2 => ?_) (fun hc2 => ?_)
  · have hJ := hJt hc2; clear hJt hJf
    refine V_aload_n C dX5_restore_12 0 rfl ?_
    refine V_get (ci := 5) C okX_0_0 uX5 rfl 3 (Nat.le_of_ble_eq_true rfl) rfl rfl f23 dX5_restore_13 ?_
    refine V_iload_n C dX5_restore_16 1 rfl ?_
    obtain ⟨hv3, hJ⟩ := hJ
    refine V_zald C okX_2_0 1 rfl rfl rfl hv3 dX5_restore_17 ?_
    obtain ⟨hJt, hJf⟩ := hJ
    refine V_if_ne C (tgt := 24) dX5_restore_18 rfl (fun hc4 => ?_) (fun hc4 => ?_)
    · have hJ := hJt hc4; clear hJt hJf
      refine V_aload_n C dX5_restore_24 0 rfl ?_
      refine V_get (ci := 5) C okX_0_0 uX5 rfl 0 (Nat.le_of_ble_eq_true rfl) rfl rfl f10 dX5_restore_25 ?_
      refine V_aload_n C dX5_restore_28 0 rfl ?_
      refine V_get (ci := 5) C okX_0_0 uX5 rfl 2 (Nat.le_of_ble_eq_true rfl) rfl rfl f19 dX5_restore_29 ?_
      refine V_iload_n C dX5_restore_32 1 rfl ?_
      obtain ⟨hv5, hJ⟩ := hJ
      refine V_aald (o' := (7, (2 + x1.toNatClampNeg), 0)) C okX_1_0 5 rfl rfl hv5 rfl dX5_restore_33 ?_
      refine V_cVv (st := []) (ci := 2) C (ok7 (by decide)) ⟨Nat.zero_le _, Nat.zero_le _⟩ (M_X2_copyFrom l D tc ad A 0 (by decide) (2 + x1.toNatClampNeg) (ok2 (vp_lt hv5)) hJ) (cwV 1 C.1.2.2.2.2 gX5_restore_X2_copyFrom rfl rfl rfl (by decide +kernel) ⟨Nat.le_of_ble_eq_true rfl, Nat.le_of_ble_eq_true rfl⟩) rfl rfl rfl rfl (Nat.le_of_ble_eq_true rfl) dX5_restore_34 (fun τ6 hJ => ?_)
      refine V_aload_n C dX5_restore_37 0 rfl ?_
      refine V_get (ci := 5) C okX_0_0 uX5 rfl 0 (Nat.le_of_ble_eq_true rfl) rfl rfl f10 dX5_restore_38 ?_
      refine V_get (ci := 2) C (ok7 (by decide)) uX2 rfl 9 (Nat.le_of_ble_eq_true rfl) rfl rfl f141 dX5_restore_41 ?_
      exact V_iret C hr hlocks dX5_restore_44 hJ
    · have hJ := hJf hc4; clear hJt hJf
      refine V_bipush (v := (-103)) C dX5_restore_21 cb_m103 ?_
      exact V_iret C hr hlocks dX5_restore_23 hJ
  · have hJ := hJf hc2; clear hJt hJf
    refine V_bipush (v := (-101)) C dX5_restore_9 cb_m101 ?_
    exact V_iret C hr hlocks dX5_restore_11 hJ
set_option maxHeartbeats 4000000 in
set_option maxRecDepth 100000 in
theorem M_X5_turn (l : Launch) (D : va_G) (tc : Nat → ClassId) (ad : Oid → Nat) (A : Nat → Prop) {σ : Mem} {Qr : Int32 → Mem → Prop} (hJ : J_X5_turn σ Qr) : Met l yX5_turn wsX5_turn ({ frames := 2, cells := 0, slots := 0, locals := 45 }) (va_Pc [.ref (ad (0, 0, 0))] (WdI D vwCl (tysX tc) idsX ad (ceX tc ad) A σ)) (va_Qi (fun (r : Int32) (u : Mem) => Qr r u) (WdO D vwCl idsX ad (ceX tc ad) A) A) 0 0 A := by
  refine V_meti (cc := cX5_turn) (nL := 1) (ret := (some .int)) (own := RX5) rfl (plainFor_of_name (by decide)) rfl rfl (Nat.le_of_ble_eq_true rfl) ?_
  intro p e s m below meth c C hr hlocks
  refine V_sub (lv' := [(0, .ref (ad (0, 0, 0)))]) [0] rfl ?_
  have f10 : Cond.fieldLink RX5 10 (TX5 0).1 (TX5 0).2.1 (TX5 0).2.2.1 ∈ wsX5_turn := List.mem_of_getElem? (i := 1) rfl
  have uX5 : ∀ w ∈ u_ws RX5 TX5 6, w ∈ wsX5_turn := by decide +kernel
  unfold J_X5_turn at hJ
  refine V_aload_n C dX5_turn_0 0 rfl ?_
  refine V_get (ci := 5) C okX_0_0 uX5 rfl 0 (Nat.le_of_ble_eq_true rfl) rfl rfl f10 dX5_turn_1 ?_
  refine V_cVi (st := []) (ci := 2) C (ok7 (by decide)) ⟨Nat.zero_le _, Nat.zero_le _⟩ (M_X2_userInTurn l D tc ad A 0 (by decide) hJ) (cwV 0 C.1.2.2.2.2 gX5_turn_X2_userInTurn rfl rfl rfl (by decide +kernel) ⟨Nat.le_of_ble_eq_true rfl, Nat.le_of_ble_eq_true rfl⟩) rfl rfl rfl rfl (Nat.le_of_ble_eq_true rfl) dX5_turn_4 (fun r1 τ1 hJ => ?_)
  exact V_iret C hr hlocks dX5_turn_7 hJ
set_option maxHeartbeats 4000000 in
set_option maxRecDepth 100000 in
theorem M_X5_inflow (l : Launch) (D : va_G) (tc : Nat → ClassId) (ad : Oid → Nat) (A : Nat → Prop) (x1 : Int32) {σ : Mem} {Qr : Int32 → Mem → Prop} (hJ : J_X5_inflow x1 σ Qr) : Met l yX5_inflow wsX5_inflow ({ frames := 4, cells := 0, slots := 0, locals := 93 }) (va_Pc [.ref (ad (0, 0, 0)), .int x1] (WdI D vwCl (tysX tc) idsX ad (ceX tc ad) A σ)) (va_Qi (fun (r : Int32) (u : Mem) => Qr r u) (WdO D vwCl idsX ad (ceX tc ad) A) A) 0 0 A := by
  refine V_meti (cc := cX5_inflow) (nL := 2) (ret := (some .int)) (own := RX5) rfl (plainFor_of_name (by decide)) rfl rfl (Nat.le_of_ble_eq_true rfl) ?_
  intro p e s m below meth c C hr hlocks
  refine V_sub (lv' := [(0, .ref (ad (0, 0, 0))), (1, .int x1)]) [0, 1] rfl ?_
  have f10 : Cond.fieldLink RX5 10 (TX5 0).1 (TX5 0).2.1 (TX5 0).2.2.1 ∈ wsX5_inflow := List.mem_of_getElem? (i := 1) rfl
  have uX5 : ∀ w ∈ u_ws RX5 TX5 6, w ∈ wsX5_inflow := by decide +kernel
  have f30 : Cond.fieldLink RX5 30 (TX5 4).1 (TX5 4).2.1 (TX5 4).2.2.1 ∈ wsX5_inflow := List.mem_of_getElem? (i := 2) rfl
  have f158 : Cond.fieldLink RX5 158 (TX1 2).1 (TX1 2).2.1 (TX1 2).2.2.1 ∈ wsX5_inflow := List.mem_of_getElem? (i := 3) rfl
  have uX1 : ∀ w ∈ u_ws RX1 TX1 6, w ∈ wsX5_inflow := by decide +kernel
  unfold J_X5_inflow at hJ
  refine V_aload_n C dX5_inflow_0 0 rfl ?_
  refine V_get (ci := 5) C okX_0_0 uX5 rfl 0 (Nat.le_of_ble_eq_true rfl) rfl rfl f10 dX5_inflow_1 ?_
  refine V_iload_n C dX5_inflow_4 1 rfl ?_
  refine V_cVi (st := []) (ci := 2) C (ok7 (by decide)) ⟨Nat.zero_le _, Nat.zero_le _⟩ (M_X2_hasDitch l D tc ad A 0 (by decide) x1 hJ) (cwV 1 C.1.2.2.2.2 gX5_inflow_X2_hasDitch rfl rfl rfl (by decide +kernel) ⟨Nat.le_of_ble_eq_true rfl, Nat.le_of_ble_eq_true rfl⟩) rfl rfl rfl rfl (Nat.le_of_ble_eq_true rfl) dX5_inflow_5 (fun r1 τ1 hJ => ?_)
  obtain ⟨hJt, hJf⟩ := hJ
  refine V_if_ne C (tgt := 14) dX5_inflow_8 rfl (fun hc2 => ?_) (fun hc2 => ?_)
  · have hJ := hJt hc2; clear hJt hJf
    refine V_aload_n C dX5_inflow_14 0 rfl ?_
    refine V_get (ci := 5) C okX_0_0 uX5 rfl 4 (Nat.le_of_ble_eq_true rfl) rfl rfl f30 dX5_inflow_15 ?_
    refine V_aload_n C dX5_inflow_18 0 rfl ?_
    refine V_get (ci := 5) C okX_0_0 uX5 rfl 0 (Nat.le_of_ble_eq_true rfl) rfl rfl f10 dX5_inflow_19 ?_
    refine V_cVv (st := []) (ci := 1) C okX_3_0 ⟨Nat.zero_le _, Nat.zero_le _⟩ (M_X1_distribute l D tc ad A 0 (by decide) hJ) (cwV 1 C.1.2.2.2.2 gX5_inflow_X1_distribute rfl rfl rfl (by decide +kernel) ⟨Nat.le_of_ble_eq_true rfl, Nat.le_of_ble_eq_true rfl⟩) rfl rfl rfl rfl (Nat.le_of_ble_eq_true rfl) dX5_inflow_22 (fun τ3 hJ => ?_)
    refine V_aload_n C dX5_inflow_25 0 rfl ?_
    refine V_get (ci := 5) C okX_0_0 uX5 rfl 4 (Nat.le_of_ble_eq_true rfl) rfl rfl f30 dX5_inflow_26 ?_
    refine V_get (ci := 1) C okX_3_0 uX1 rfl 2 (Nat.le_of_ble_eq_true rfl) rfl rfl f158 dX5_inflow_29 ?_
    refine V_iload_n C dX5_inflow_32 1 rfl ?_
    obtain ⟨hv4, hJ⟩ := hJ
    refine V_iald C okX_15_0 0 rfl rfl rfl hv4 dX5_inflow_33 ?_
    exact V_iret C hr hlocks dX5_inflow_34 hJ
  · have hJ := hJf hc2; clear hJt hJf
    refine V_bipush (v := (-101)) C dX5_inflow_11 cb_m101 ?_
    exact V_iret C hr hlocks dX5_inflow_13 hJ
set_option maxHeartbeats 4000000 in
set_option maxRecDepth 100000 in
theorem M_X1_lostIn (l : Launch) (D : va_G) (tc : Nat → ClassId) (ad : Oid → Nat) (A : Nat → Prop) (x1 : Int32) {σ : Mem} {Qr : Int32 → Mem → Prop} (hJ : J_X1_lostIn x1 σ Qr) : Met l yX1_lostIn wsX1_lostIn ({ frames := 0, cells := 0, slots := 0, locals := 0 }) (va_Pc [.ref (ad (3, 0, 0)), .int x1] (WdI D vwCl (tysX tc) idsX ad (ceX tc ad) A σ)) (va_Qi (fun (r : Int32) (u : Mem) => Qr r u) (WdO D vwCl idsX ad (ceX tc ad) A) A) 0 0 A := by
  refine V_meti (cc := cX1_lostIn) (nL := 2) (ret := (some .int)) (own := RX1) rfl (plainFor_of_name (by decide)) rfl rfl (Nat.le_of_ble_eq_true rfl) ?_
  intro p e s m below meth c C hr hlocks
  refine V_sub (lv' := [(0, .ref (ad (3, 0, 0))), (1, .int x1)]) [0, 1] rfl ?_
  have f18 : Cond.fieldLink RX1 18 (TX1 2).1 (TX1 2).2.1 (TX1 2).2.2.1 ∈ wsX1_lostIn := List.mem_of_getElem? (i := 1) rfl
  have uX1 : ∀ w ∈ u_ws RX1 TX1 6, w ∈ wsX1_lostIn := by decide +kernel
  have f21 : Cond.fieldLink RX1 21 (TX1 3).1 (TX1 3).2.1 (TX1 3).2.2.1 ∈ wsX1_lostIn := List.mem_of_getElem? (i := 2) rfl
  unfold J_X1_lostIn at hJ
  refine V_aload_n C dX1_lostIn_0 0 rfl ?_
  refine V_get (ci := 1) C okX_3_0 uX1 rfl 2 (Nat.le_of_ble_eq_true rfl) rfl rfl f18 dX1_lostIn_1 ?_
  refine V_iload_n C dX1_lostIn_4 1 rfl ?_
  obtain ⟨hv1, hJ⟩ := hJ
  refine V_iald C okX_15_0 0 rfl rfl rfl hv1 dX1_lostIn_5 ?_
  refine V_aload_n C dX1_lostIn_6 0 rfl ?_
  refine V_get (ci := 1) C okX_3_0 uX1 rfl 3 (Nat.le_of_ble_eq_true rfl) rfl rfl f21 dX1_lostIn_7 ?_
  refine V_iload_n C dX1_lostIn_10 1 rfl ?_
  obtain ⟨hv2, hJ⟩ := hJ
  refine V_iald C okX_15_1 0 rfl rfl rfl hv2 dX1_lostIn_11 ?_
  refine V_isub C dX1_lostIn_12 ?_
  exact V_iret C hr hlocks dX1_lostIn_13 hJ
set_option maxHeartbeats 4000000 in
set_option maxRecDepth 100000 in
theorem M_X5_loses (l : Launch) (D : va_G) (tc : Nat → ClassId) (ad : Oid → Nat) (A : Nat → Prop) (x1 : Int32) {σ : Mem} {Qr : Int32 → Mem → Prop} (hJ : J_X5_loses x1 σ Qr) : Met l yX5_loses wsX5_loses ({ frames := 4, cells := 0, slots := 0, locals := 93 }) (va_Pc [.ref (ad (0, 0, 0)), .int x1] (WdI D vwCl (tysX tc) idsX ad (ceX tc ad) A σ)) (va_Qi (fun (r : Int32) (u : Mem) => Qr r u) (WdO D vwCl idsX ad (ceX tc ad) A) A) 0 0 A := by
  refine V_meti (cc := cX5_loses) (nL := 2) (ret := (some .int)) (own := RX5) rfl (plainFor_of_name (by decide)) rfl rfl (Nat.le_of_ble_eq_true rfl) ?_
  intro p e s m below meth c C hr hlocks
  refine V_sub (lv' := [(0, .ref (ad (0, 0, 0))), (1, .int x1)]) [0, 1] rfl ?_
  have f10 : Cond.fieldLink RX5 10 (TX5 0).1 (TX5 0).2.1 (TX5 0).2.2.1 ∈ wsX5_loses := List.mem_of_getElem? (i := 1) rfl
  have uX5 : ∀ w ∈ u_ws RX5 TX5 6, w ∈ wsX5_loses := by decide +kernel
  have f30 : Cond.fieldLink RX5 30 (TX5 4).1 (TX5 4).2.1 (TX5 4).2.2.1 ∈ wsX5_loses := List.mem_of_getElem? (i := 2) rfl
  unfold J_X5_loses at hJ
  refine V_aload_n C dX5_loses_0 0 rfl ?_
  refine V_get (ci := 5) C okX_0_0 uX5 rfl 0 (Nat.le_of_ble_eq_true rfl) rfl rfl f10 dX5_loses_1 ?_
  refine V_iload_n C dX5_loses_4 1 rfl ?_
  refine V_cVi (st := []) (ci := 2) C (ok7 (by decide)) ⟨Nat.zero_le _, Nat.zero_le _⟩ (M_X2_hasDitch l D tc ad A 0 (by decide) x1 hJ) (cwV 1 C.1.2.2.2.2 gX5_loses_X2_hasDitch rfl rfl rfl (by decide +kernel) ⟨Nat.le_of_ble_eq_true rfl, Nat.le_of_ble_eq_true rfl⟩) rfl rfl rfl rfl (Nat.le_of_ble_eq_true rfl) dX5_loses_5 (fun r1 τ1 hJ => ?_)
  obtain ⟨hJt, hJf⟩ := hJ
  refine V_if_ne C (tgt := 14) dX5_loses_8 rfl (fun hc2 => ?_) (fun hc2 => ?_)
  · have hJ := hJt hc2; clear hJt hJf
    refine V_aload_n C dX5_loses_14 0 rfl ?_
    refine V_get (ci := 5) C okX_0_0 uX5 rfl 4 (Nat.le_of_ble_eq_true rfl) rfl rfl f30 dX5_loses_15 ?_
    refine V_aload_n C dX5_loses_18 0 rfl ?_
    refine V_get (ci := 5) C okX_0_0 uX5 rfl 0 (Nat.le_of_ble_eq_true rfl) rfl rfl f10 dX5_loses_19 ?_
    refine V_cVv (st := []) (ci := 1) C okX_3_0 ⟨Nat.zero_le _, Nat.zero_le _⟩ (M_X1_distribute l D tc ad A 0 (by decide) hJ) (cwV 1 C.1.2.2.2.2 gX5_loses_X1_distribute rfl rfl rfl (by decide +kernel) ⟨Nat.le_of_ble_eq_true rfl, Nat.le_of_ble_eq_true rfl⟩) rfl rfl rfl rfl (Nat.le_of_ble_eq_true rfl) dX5_loses_22 (fun τ3 hJ => ?_)
    refine V_aload_n C dX5_loses_25 0 rfl ?_
    refine V_get (ci := 5) C okX_0_0 uX5 rfl 4 (Nat.le_of_ble_eq_true rfl) rfl rfl f30 dX5_loses_26 ?_
    refine V_iload_n C dX5_loses_29 1 rfl ?_
    refine V_cVi (st := []) (ci := 1) C okX_3_0 ⟨Nat.zero_le _, Nat.zero_le _⟩ (M_X1_lostIn l D tc ad A x1 hJ) (cwV 1 C.1.2.2.2.2 gX5_loses_X1_lostIn rfl rfl rfl (by decide +kernel) ⟨Nat.le_of_ble_eq_true rfl, Nat.le_of_ble_eq_true rfl⟩) rfl rfl rfl rfl (Nat.le_of_ble_eq_true rfl) dX5_loses_30 (fun r4 τ4 hJ => ?_)
    exact V_iret C hr hlocks dX5_loses_33 hJ
  · have hJ := hJf hc2; clear hJt hJf
    refine V_bipush (v := (-101)) C dX5_loses_11 cb_m101 ?_
    exact V_iret C hr hlocks dX5_loses_13 hJ
set_option maxHeartbeats 4000000 in
set_option maxRecDepth 100000 in
theorem M_X1_ditchAgainstOneMore (l : Launch) (D : va_G) (tc : Nat → ClassId) (ad : Oid → Nat) (A : Nat → Prop) (j1 : Nat) (hj1 : j1 < 4) (x2 : Int32) {σ : Mem} {Qr : Int32 → Mem → Prop} (hJ : J_X1_ditchAgainstOneMore j1 x2 σ Qr) : Met l yX1_ditchAgainstOneMore wsX1_ditchAgainstOneMore ({ frames := 2, cells := 0, slots := 0, locals := 44 }) (va_Pc [.ref (ad (3, 0, 0)), .ref (ad (7, j1, 0)), .int x2] (WdI D vwCl (tysX tc) idsX ad (ceX tc ad) A σ)) (va_Qi (fun (r : Int32) (u : Mem) => Qr r u) (WdO D vwCl idsX ad (ceX tc ad) A) A) 0 0 A := by
  refine V_meti (cc := cX1_ditchAgainstOneMore) (nL := 5) (ret := (some .int)) (own := RX1) rfl (plainFor_of_name (by decide)) rfl rfl (Nat.le_of_ble_eq_true rfl) ?_
  intro p e s m below meth c C hr hlocks
  refine V_sub (lv' := [(0, .ref (ad (3, 0, 0))), (1, .ref (ad (7, j1, 0))), (2, .int x2)]) [0, 1, 2] rfl ?_
  have f15 : Cond.fieldLink RX1 15 (TX1 1).1 (TX1 1).2.1 (TX1 1).2.2.1 ∈ wsX1_ditchAgainstOneMore := List.mem_of_getElem? (i := 1) rfl
  have uX1 : ∀ w ∈ u_ws RX1 TX1 6, w ∈ wsX1_ditchAgainstOneMore := by decide +kernel
  have f68 : Cond.fieldLink RX1 68 (TX2 1).1 (TX2 1).2.1 (TX2 1).2.2.1 ∈ wsX1_ditchAgainstOneMore := List.mem_of_getElem? (i := 2) rfl
  have uX2 : ∀ w ∈ u_ws RX2 TX2 10, w ∈ wsX1_ditchAgainstOneMore := by decide +kernel
  have f72 : Cond.fieldLink RX1 72 (TX4 0).1 (TX4 0).2.1 (TX4 0).2.2.1 ∈ wsX1_ditchAgainstOneMore := List.mem_of_getElem? (i := 3) rfl
  have uX4 : ∀ w ∈ u_ws RX4 TX4 12, w ∈ wsX1_ditchAgainstOneMore := by decide +kernel
  have f77 : Cond.fieldLink RX1 77 (TX2 5).1 (TX2 5).2.1 (TX2 5).2.2.1 ∈ wsX1_ditchAgainstOneMore := List.mem_of_getElem? (i := 4) rfl
  have f18 : Cond.fieldLink RX1 18 (TX1 2).1 (TX1 2).2.1 (TX1 2).2.2.1 ∈ wsX1_ditchAgainstOneMore := List.mem_of_getElem? (i := 5) rfl
  have f80 : Cond.fieldLink RX1 80 (TX2 0).1 (TX2 0).2.1 (TX2 0).2.2.1 ∈ wsX1_ditchAgainstOneMore := List.mem_of_getElem? (i := 6) rfl
  have f83 : Cond.fieldLink RX1 83 (TX0 1).1 (TX0 1).2.1 (TX0 1).2.2.1 ∈ wsX1_ditchAgainstOneMore := List.mem_of_getElem? (i := 7) rfl
  have uX0 : ∀ w ∈ u_ws RX0 TX0 3, w ∈ wsX1_ditchAgainstOneMore := by decide +kernel
  have f88 : Cond.fieldLink RX1 88 (TX0 0).1 (TX0 0).2.1 (TX0 0).2.2.1 ∈ wsX1_ditchAgainstOneMore := List.mem_of_getElem? (i := 8) rfl
  unfold J_X1_ditchAgainstOneMore at hJ
  refine V_aload_n C dX1_ditchAgainstOneMore_0 0 rfl ?_
  refine V_get (ci := 1) C okX_3_0 uX1 rfl 1 (Nat.le_of_ble_eq_true rfl) rfl rfl f15 dX1_ditchAgainstOneMore_1 ?_
  refine V_iload_n C dX1_ditchAgainstOneMore_4 2 rfl ?_
  refine V_dup2 C dX1_ditchAgainstOneMore_5 rfl rfl ?_
  obtain ⟨hv1, hJ⟩ := hJ
  refine V_iald C okX_4_1 0 rfl rfl rfl hv1 dX1_ditchAgainstOneMore_6 ?_
  refine V_iconst (v := 1) C dX1_ditchAgainstOneMore_7 ci_1 ?_
  refine V_iadd C dX1_ditchAgainstOneMore_8 ?_
  obtain ⟨hv2, hJ⟩ := hJ
  refine V_iast C okX_4_1 0 rfl (fun _ => rfl) rfl hv2 dX1_ditchAgainstOneMore_9 (fun τ3 hτ3 => ?_)
  replace hJ := hJ τ3 hτ3
  refine V_aload_n C dX1_ditchAgainstOneMore_10 0 rfl ?_
  refine V_aload_n C dX1_ditchAgainstOneMore_11 1 rfl ?_
  refine V_cVv (st := []) (ci := 1) C okX_3_0 ⟨Nat.zero_le _, Nat.zero_le _⟩ (M_X1_spread l D tc ad A j1 hj1 hJ) (cwV 1 C.1.2.2.2.2 gX1_ditchAgainstOneMore_X1_spread rfl rfl rfl (by decide +kernel) ⟨Nat.le_of_ble_eq_true rfl, Nat.le_of_ble_eq_true rfl⟩) rfl rfl rfl rfl (Nat.le_of_ble_eq_true rfl) dX1_ditchAgainstOneMore_12 (fun τ4 hJ => ?_)
  refine V_aload_n C dX1_ditchAgainstOneMore_15 1 rfl ?_
  refine V_get (ci := 2) C (ok7 hj1) uX2 rfl 1 (Nat.le_of_ble_eq_true rfl) rfl rfl f68 dX1_ditchAgainstOneMore_16 ?_
  refine V_iload_n C dX1_ditchAgainstOneMore_19 2 rfl ?_
  obtain ⟨hv5, hJ⟩ := hJ
  refine V_aald (o' := (14, j1, x2.toNatClampNeg)) C (ok9 hj1) 4 rfl rfl hv5 rfl dX1_ditchAgainstOneMore_20 ?_
  refine V_get (ci := 4) C (ok14 hj1 (vp_lt hv5)) uX4 rfl 0 (Nat.le_of_ble_eq_true rfl) rfl rfl f72 dX1_ditchAgainstOneMore_21 ?_
  refine V_topi (fun x3_6 hx3_6 => ?_)
  replace hJ := hJ x3_6 hx3_6
  refine V_istore_n (lv' := [(3, .int x3_6), (0, .ref (ad (3, 0, 0))), (1, .ref (ad (7, j1, 0))), (2, .int x2)]) C dX1_ditchAgainstOneMore_24 (by decide) rfl ?_
  refine V_iconst (v := 0) C dX1_ditchAgainstOneMore_25 ci_0 ?_
  refine V_istore (lv' := [(4, .int 0), (3, .int x3_6), (0, .ref (ad (3, 0, 0))), (1, .ref (ad (7, j1, 0))), (2, .int x2)]) C dX1_ditchAgainstOneMore_26 (by decide) rfl ?_
  refine V_sub (lv' := [(0, .ref (ad (3, 0, 0))), (1, .ref (ad (7, j1, 0))), (3, .int x3_6), (4, .int 0)]) [2, 3, 1, 0] rfl ?_
  obtain ⟨I28, μ28, hI28, hst28⟩ := hJ
  have L28 : ∀ (n : Nat) (x3_7 : Int32) (x4_7 : Int32), μ28 x3_7 x4_7 < n → I28 x3_7 x4_7 → VV p l e (headSpec wsX1_ditchAgainstOneMore ({ frames := 2, cells := 0, slots := 0, locals := 44 })).room s m ([.ref (ad (3, 0, 0)), .ref (ad (7, j1, 0)), .int x2] : List Value).toArray below meth c D vwCl idsX ad (ceX tc ad) A (MQ below (va_Qi (fun (r : Int32) (u : Mem) => Qr r u) (WdO D vwCl idsX ad (ceX tc ad) A) A) ([.ref (ad (3, 0, 0)), .ref (ad (7, j1, 0)), .int x2] : List Value).toArray s 0 0 A) 5 (0, 0) 28 [(0, .ref (ad (3, 0, 0))), (1, .ref (ad (7, j1, 0))), (3, .int x3_7), (4, .int x4_7)] [] τ4 := by
    intro n
    induction n with
    | zero => intro x3_7 x4_7 hμ _; exact absurd hμ (Nat.not_lt_zero _)
    | succ n ihn =>
      intro x3_7 x4_7 hμ28 hJ
      have ih28 := ihn
      replace hJ := hst28 x3_7 x4_7 hJ
      refine V_iload C dX1_ditchAgainstOneMore_28 3 rfl ?_
      refine V_aload_n C dX1_ditchAgainstOneMore_30 1 rfl ?_
      refine V_get (ci := 2) C (ok7 hj1) uX2 rfl 5 (Nat.le_of_ble_eq_true rfl) rfl rfl f77 dX1_ditchAgainstOneMore_31 ?_
      obtain ⟨hJt, hJf⟩ := hJ
      refine V_icmp_ge C (tgt := 73) dX1_ditchAgainstOneMore_34 rfl (fun hc8 => ?_) (fun hc8 => ?_)
      · have hJ := hJt hc8; clear hJt hJf
        refine V_bipush (v := (-105)) C dX1_ditchAgainstOneMore_73 cb_m105 ?_
        exact V_iret C hr hlocks dX1_ditchAgainstOneMore_75 hJ
      · have hJ := hJf hc8; clear hJt hJf
        refine V_aload_n C dX1_ditchAgainstOneMore_37 0 rfl ?_
        refine V_get (ci := 1) C okX_3_0 uX1 rfl 2 (Nat.le_of_ble_eq_true rfl) rfl rfl f18 dX1_ditchAgainstOneMore_38 ?_
        refine V_iload_n C dX1_ditchAgainstOneMore_41 2 rfl ?_
        obtain ⟨hv9, hJ⟩ := hJ
        refine V_iald C okX_15_0 0 rfl rfl rfl hv9 dX1_ditchAgainstOneMore_42 ?_
        refine V_aload_n C dX1_ditchAgainstOneMore_43 1 rfl ?_
        refine V_get (ci := 2) C (ok7 hj1) uX2 rfl 0 (Nat.le_of_ble_eq_true rfl) rfl rfl f80 dX1_ditchAgainstOneMore_44 ?_
        refine V_iload_n C dX1_ditchAgainstOneMore_47 2 rfl ?_
        obtain ⟨hv10, hJ⟩ := hJ
        refine V_aald (o' := (13, j1, x3_7.toNatClampNeg)) C (ok8 hj1) 3 rfl rfl hv10 rfl dX1_ditchAgainstOneMore_48 ?_
        refine V_get (ci := 0) C (ok13 hj1 (vp_lt hv10)) uX0 rfl 1 (Nat.le_of_ble_eq_true rfl) rfl rfl f83 dX1_ditchAgainstOneMore_49 ?_
        obtain ⟨hJt, hJf⟩ := hJ
        refine V_icmp_le C (tgt := 57) dX1_ditchAgainstOneMore_52 rfl (fun hc11 => ?_) (fun hc11 => ?_)
        · have hJ := hJt hc11; clear hJt hJf
          refine V_aload_n C dX1_ditchAgainstOneMore_57 1 rfl ?_
          refine V_get (ci := 2) C (ok7 hj1) uX2 rfl 0 (Nat.le_of_ble_eq_true rfl) rfl rfl f80 dX1_ditchAgainstOneMore_58 ?_
          refine V_iload_n C dX1_ditchAgainstOneMore_61 2 rfl ?_
          obtain ⟨hv12, hJ⟩ := hJ
          refine V_aald (o' := (13, j1, x3_7.toNatClampNeg)) C (ok8 hj1) 3 rfl rfl hv12 rfl dX1_ditchAgainstOneMore_62 ?_
          refine V_get (ci := 0) C (ok13 hj1 (vp_lt hv12)) uX0 rfl 0 (Nat.le_of_ble_eq_true rfl) rfl rfl f88 dX1_ditchAgainstOneMore_63 ?_
          refine V_topi (fun x3_13 hx3_13 => ?_)
          replace hJ := hJ x3_13 hx3_13
          refine V_istore_n (lv' := [(3, .int x3_13), (0, .ref (ad (3, 0, 0))), (1, .ref (ad (7, j1, 0))), (4, .int x4_7)]) C dX1_ditchAgainstOneMore_66 (by decide) rfl ?_
          obtain ⟨x4_14, hx4_14⟩ : ∃ y : Int32, y = x4_7 + 1 := ⟨_, rfl⟩
          replace hJ := hJ x4_14 hx4_14
          refine V_iinc (v := x4_14) (lv' := [(4, .int x4_14), (3, .int x3_13), (0, .ref (ad (3, 0, 0))), (1, .ref (ad (7, j1, 0)))]) C dX1_ditchAgainstOneMore_67 3 rfl (by rw [hx4_14]; exact congrArg _ ci_1) (by decide) rfl ?_
          refine V_goto C (tgt := 28) dX1_ditchAgainstOneMore_70 rfl ?_
          refine V_sub (lv' := [(0, .ref (ad (3, 0, 0))), (1, .ref (ad (7, j1, 0))), (3, .int x3_13), (4, .int x4_14)]) [2, 3, 1, 0] rfl ?_
          exact ih28 x3_13 x4_14 (Nat.lt_of_lt_of_le hJ.2 (Nat.le_of_lt_succ hμ28)) hJ.1
        · have hJ := hJf hc11; clear hJt hJf
          refine V_iload_n C dX1_ditchAgainstOneMore_55 2 rfl ?_
          exact V_iret C hr hlocks dX1_ditchAgainstOneMore_56 hJ
  exact L28 _ x3_6 0 (Nat.lt_succ_self _) hI28
set_option maxHeartbeats 4000000 in
set_option maxRecDepth 100000 in
theorem M_X5_limit (l : Launch) (D : va_G) (tc : Nat → ClassId) (ad : Oid → Nat) (A : Nat → Prop) (x1 : Int32) {σ : Mem} {Qr : Int32 → Mem → Prop} (hJ : J_X5_limit x1 σ Qr) : Met l yX5_limit wsX5_limit ({ frames := 4, cells := 0, slots := 0, locals := 93 }) (va_Pc [.ref (ad (0, 0, 0)), .int x1] (WdI D vwCl (tysX tc) idsX ad (ceX tc ad) A σ)) (va_Qi (fun (r : Int32) (u : Mem) => Qr r u) (WdO D vwCl idsX ad (ceX tc ad) A) A) 0 0 A := by
  refine V_meti (cc := cX5_limit) (nL := 2) (ret := (some .int)) (own := RX5) rfl (plainFor_of_name (by decide)) rfl rfl (Nat.le_of_ble_eq_true rfl) ?_
  intro p e s m below meth c C hr hlocks
  refine V_sub (lv' := [(0, .ref (ad (0, 0, 0))), (1, .int x1)]) [0, 1] rfl ?_
  have f10 : Cond.fieldLink RX5 10 (TX5 0).1 (TX5 0).2.1 (TX5 0).2.2.1 ∈ wsX5_limit := List.mem_of_getElem? (i := 1) rfl
  have uX5 : ∀ w ∈ u_ws RX5 TX5 6, w ∈ wsX5_limit := by decide +kernel
  have f30 : Cond.fieldLink RX5 30 (TX5 4).1 (TX5 4).2.1 (TX5 4).2.2.1 ∈ wsX5_limit := List.mem_of_getElem? (i := 2) rfl
  unfold J_X5_limit at hJ
  refine V_aload_n C dX5_limit_0 0 rfl ?_
  refine V_get (ci := 5) C okX_0_0 uX5 rfl 0 (Nat.le_of_ble_eq_true rfl) rfl rfl f10 dX5_limit_1 ?_
  refine V_iload_n C dX5_limit_4 1 rfl ?_
  refine V_cVi (st := []) (ci := 2) C (ok7 (by decide)) ⟨Nat.zero_le _, Nat.zero_le _⟩ (M_X2_hasUser l D tc ad A 0 (by decide) x1 hJ) (cwV 1 C.1.2.2.2.2 gX5_limit_X2_hasUser rfl rfl rfl (by decide +kernel) ⟨Nat.le_of_ble_eq_true rfl, Nat.le_of_ble_eq_true rfl⟩) rfl rfl rfl rfl (Nat.le_of_ble_eq_true rfl) dX5_limit_5 (fun r1 τ1 hJ => ?_)
  obtain ⟨hJt, hJf⟩ := hJ
  refine V_if_ne C (tgt := 14) dX5_limit_8 rfl (fun hc2 => ?_) (fun hc2 => ?_)
  · have hJ := hJt hc2; clear hJt hJf
    refine V_aload_n C dX5_limit_14 0 rfl ?_
    refine V_get (ci := 5) C okX_0_0 uX5 rfl 4 (Nat.le_of_ble_eq_true rfl) rfl rfl f30 dX5_limit_15 ?_
    refine V_aload_n C dX5_limit_18 0 rfl ?_
    refine V_get (ci := 5) C okX_0_0 uX5 rfl 0 (Nat.le_of_ble_eq_true rfl) rfl rfl f10 dX5_limit_19 ?_
    refine V_cVv (st := []) (ci := 1) C okX_3_0 ⟨Nat.zero_le _, Nat.zero_le _⟩ (M_X1_distribute l D tc ad A 0 (by decide) hJ) (cwV 1 C.1.2.2.2.2 gX5_limit_X1_distribute rfl rfl rfl (by decide +kernel) ⟨Nat.le_of_ble_eq_true rfl, Nat.le_of_ble_eq_true rfl⟩) rfl rfl rfl rfl (Nat.le_of_ble_eq_true rfl) dX5_limit_22 (fun τ3 hJ => ?_)
    refine V_aload_n C dX5_limit_25 0 rfl ?_
    refine V_get (ci := 5) C okX_0_0 uX5 rfl 4 (Nat.le_of_ble_eq_true rfl) rfl rfl f30 dX5_limit_26 ?_
    refine V_iload_n C dX5_limit_29 1 rfl ?_
    refine V_cVi (st := []) (ci := 1) C okX_3_0 ⟨Nat.zero_le _, Nat.zero_le _⟩ (M_X1_isContent l D tc ad A x1 hJ) (cwV 1 C.1.2.2.2.2 gX5_limit_X1_isContent rfl rfl rfl (by decide +kernel) ⟨Nat.le_of_ble_eq_true rfl, Nat.le_of_ble_eq_true rfl⟩) rfl rfl rfl rfl (Nat.le_of_ble_eq_true rfl) dX5_limit_30 (fun r4 τ4 hJ => ?_)
    obtain ⟨hJt, hJf⟩ := hJ
    refine V_if_eq C (tgt := 39) dX5_limit_33 rfl (fun hc5 => ?_) (fun hc5 => ?_)
    · have hJ := hJt hc5; clear hJt hJf
      refine V_aload_n C dX5_limit_39 0 rfl ?_
      refine V_get (ci := 5) C okX_0_0 uX5 rfl 4 (Nat.le_of_ble_eq_true rfl) rfl rfl f30 dX5_limit_40 ?_
      refine V_aload_n C dX5_limit_43 0 rfl ?_
      refine V_get (ci := 5) C okX_0_0 uX5 rfl 0 (Nat.le_of_ble_eq_true rfl) rfl rfl f10 dX5_limit_44 ?_
      refine V_iload_n C dX5_limit_47 1 rfl ?_
      refine V_cVi (st := []) (ci := 1) C okX_3_0 ⟨Nat.zero_le _, Nat.zero_le _⟩ (M_X1_ditchAgainstOneMore l D tc ad A 0 (by decide) x1 hJ) (cwV 2 C.1.2.2.2.2 gX5_limit_X1_ditchAgainstOneMore rfl rfl rfl (by decide +kernel) ⟨Nat.le_of_ble_eq_true rfl, Nat.le_of_ble_eq_true rfl⟩) rfl rfl rfl rfl (Nat.le_of_ble_eq_true rfl) dX5_limit_48 (fun r6 τ6 hJ => ?_)
      exact V_iret C hr hlocks dX5_limit_51 hJ
    · have hJ := hJf hc5; clear hJt hJf
      refine V_bipush (v := (-103)) C dX5_limit_36 cb_m103 ?_
      exact V_iret C hr hlocks dX5_limit_38 hJ
  · have hJ := hJf hc2; clear hJt hJf
    refine V_bipush (v := (-101)) C dX5_limit_11 cb_m101 ?_
    exact V_iret C hr hlocks dX5_limit_13 hJ
set_option maxHeartbeats 4000000 in
set_option maxRecDepth 100000 in
theorem M_X5_asks (l : Launch) (D : va_G) (tc : Nat → ClassId) (ad : Oid → Nat) (A : Nat → Prop) (x1 : Int32) {σ : Mem} {Qr : Int32 → Mem → Prop} (hJ : J_X5_asks x1 σ Qr) : Met l yX5_asks wsX5_asks ({ frames := 3, cells := 0, slots := 0, locals := 66 }) (va_Pc [.ref (ad (0, 0, 0)), .int x1] (WdI D vwCl (tysX tc) idsX ad (ceX tc ad) A σ)) (va_Qi (fun (r : Int32) (u : Mem) => Qr r u) (WdO D vwCl idsX ad (ceX tc ad) A) A) 0 0 A := by
  refine V_meti (cc := cX5_asks) (nL := 2) (ret := (some .int)) (own := RX5) rfl (plainFor_of_name (by decide)) rfl rfl (Nat.le_of_ble_eq_true rfl) ?_
  intro p e s m below meth c C hr hlocks
  refine V_sub (lv' := [(0, .ref (ad (0, 0, 0))), (1, .int x1)]) [0, 1] rfl ?_
  have f10 : Cond.fieldLink RX5 10 (TX5 0).1 (TX5 0).2.1 (TX5 0).2.2.1 ∈ wsX5_asks := List.mem_of_getElem? (i := 1) rfl
  have uX5 : ∀ w ∈ u_ws RX5 TX5 6, w ∈ wsX5_asks := by decide +kernel
  unfold J_X5_asks at hJ
  refine V_aload_n C dX5_asks_0 0 rfl ?_
  refine V_get (ci := 5) C okX_0_0 uX5 rfl 0 (Nat.le_of_ble_eq_true rfl) rfl rfl f10 dX5_asks_1 ?_
  refine V_iload_n C dX5_asks_4 1 rfl ?_
  refine V_cVi (st := []) (ci := 2) C (ok7 (by decide)) ⟨Nat.zero_le _, Nat.zero_le _⟩ (M_X2_hasUser l D tc ad A 0 (by decide) x1 hJ) (cwV 1 C.1.2.2.2.2 gX5_asks_X2_hasUser rfl rfl rfl (by decide +kernel) ⟨Nat.le_of_ble_eq_true rfl, Nat.le_of_ble_eq_true rfl⟩) rfl rfl rfl rfl (Nat.le_of_ble_eq_true rfl) dX5_asks_5 (fun r1 τ1 hJ => ?_)
  obtain ⟨hJt, hJf⟩ := hJ
  refine V_if_ne C (tgt := 14) dX5_asks_8 rfl (fun hc2 => ?_) (fun hc2 => ?_)
  · have hJ := hJt hc2; clear hJt hJf
    refine V_aload_n C dX5_asks_14 0 rfl ?_
    refine V_get (ci := 5) C okX_0_0 uX5 rfl 0 (Nat.le_of_ble_eq_true rfl) rfl rfl f10 dX5_asks_15 ?_
    refine V_iload_n C dX5_asks_18 1 rfl ?_
    refine V_aload_n C dX5_asks_19 0 rfl ?_
    refine V_get (ci := 5) C okX_0_0 uX5 rfl 0 (Nat.le_of_ble_eq_true rfl) rfl rfl f10 dX5_asks_20 ?_
    refine V_cVi (st := [.int x1, .ref (ad (7, 0, 0))]) (ci := 2) C (ok7 (by decide)) ⟨Nat.zero_le _, Nat.zero_le _⟩ (M_X2_userInTurn l D tc ad A 0 (by decide) hJ) (cwV 0 C.1.2.2.2.2 gX5_asks_X2_userInTurn rfl rfl rfl (by decide +kernel) ⟨Nat.le_of_ble_eq_true rfl, Nat.le_of_ble_eq_true rfl⟩) rfl rfl rfl rfl (Nat.le_of_ble_eq_true rfl) dX5_asks_23 (fun r3 τ3 hJ => ?_)
    refine V_cVi (st := []) (ci := 2) C (ok7 (by decide)) ⟨Nat.zero_le _, Nat.zero_le _⟩ (M_X2_unitsAsked l D tc ad A 0 (by decide) x1 r3 hJ) (cwV 2 C.1.2.2.2.2 gX5_asks_X2_unitsAsked rfl rfl rfl (by decide +kernel) ⟨Nat.le_of_ble_eq_true rfl, Nat.le_of_ble_eq_true rfl⟩) rfl rfl rfl rfl (Nat.le_of_ble_eq_true rfl) dX5_asks_26 (fun r4 τ4 hJ => ?_)
    exact V_iret C hr hlocks dX5_asks_29 hJ
  · have hJ := hJf hc2; clear hJt hJf
    refine V_bipush (v := (-101)) C dX5_asks_11 cb_m101 ?_
    exact V_iret C hr hlocks dX5_asks_13 hJ
set_option maxHeartbeats 4000000 in
set_option maxRecDepth 100000 in
theorem M_X1_unitsGot (l : Launch) (D : va_G) (tc : Nat → ClassId) (ad : Oid → Nat) (A : Nat → Prop) (j1 : Nat) (hj1 : j1 < 4) {σ : Mem} {Qr : Int32 → Mem → Prop} (hJ : J_X1_unitsGot j1 σ Qr) : Met l yX1_unitsGot wsX1_unitsGot ({ frames := 0, cells := 0, slots := 0, locals := 0 }) (va_Pc [.ref (ad (3, 0, 0)), .ref (ad (7, j1, 0))] (WdI D vwCl (tysX tc) idsX ad (ceX tc ad) A σ)) (va_Qi (fun (r : Int32) (u : Mem) => Qr r u) (WdO D vwCl idsX ad (ceX tc ad) A) A) 0 0 A := by
  refine V_meti (cc := cX1_unitsGot) (nL := 4) (ret := (some .int)) (own := RX1) rfl (plainFor_of_name (by decide)) rfl rfl (Nat.le_of_ble_eq_true rfl) ?_
  intro p e s m below meth c C hr hlocks
  refine V_sub (lv' := [(0, .ref (ad (3, 0, 0))), (1, .ref (ad (7, j1, 0)))]) [0, 1] rfl ?_
  have f40 : Cond.fieldLink RX1 40 (TX2 6).1 (TX2 6).2.1 (TX2 6).2.2.1 ∈ wsX1_unitsGot := List.mem_of_getElem? (i := 1) rfl
  have uX2 : ∀ w ∈ u_ws RX2 TX2 10, w ∈ wsX1_unitsGot := by decide +kernel
  have f15 : Cond.fieldLink RX1 15 (TX1 1).1 (TX1 1).2.1 (TX1 1).2.2.1 ∈ wsX1_unitsGot := List.mem_of_getElem? (i := 2) rfl
  have uX1 : ∀ w ∈ u_ws RX1 TX1 6, w ∈ wsX1_unitsGot := by decide +kernel
  unfold J_X1_unitsGot at hJ
  refine V_iconst (v := 0) C dX1_unitsGot_0 ci_0 ?_
  refine V_istore_n (lv' := [(2, .int 0), (0, .ref (ad (3, 0, 0))), (1, .ref (ad (7, j1, 0)))]) C dX1_unitsGot_1 (by decide) rfl ?_
  refine V_iconst (v := 0) C dX1_unitsGot_2 ci_0 ?_
  refine V_istore_n (lv' := [(3, .int 0), (2, .int 0), (0, .ref (ad (3, 0, 0))), (1, .ref (ad (7, j1, 0)))]) C dX1_unitsGot_3 (by decide) rfl ?_
  refine V_sub (lv' := [(0, .ref (ad (3, 0, 0))), (1, .ref (ad (7, j1, 0))), (2, .int 0), (3, .int 0)]) [2, 3, 1, 0] rfl ?_
  obtain ⟨I4, μ4, hI4, hst4⟩ := hJ
  have L4 : ∀ (n : Nat) (x2_1 : Int32) (x3_1 : Int32), μ4 x2_1 x3_1 < n → I4 x2_1 x3_1 → VV p l e (headSpec wsX1_unitsGot ({ frames := 0, cells := 0, slots := 0, locals := 0 })).room s m ([.ref (ad (3, 0, 0)), .ref (ad (7, j1, 0))] : List Value).toArray below meth c D vwCl idsX ad (ceX tc ad) A (MQ below (va_Qi (fun (r : Int32) (u : Mem) => Qr r u) (WdO D vwCl idsX ad (ceX tc ad) A) A) ([.ref (ad (3, 0, 0)), .ref (ad (7, j1, 0))] : List Value).toArray s 0 0 A) 4 (0, 0) 4 [(0, .ref (ad (3, 0, 0))), (1, .ref (ad (7, j1, 0))), (2, .int x2_1), (3, .int x3_1)] [] σ := by
    intro n
    induction n with
    | zero => intro x2_1 x3_1 hμ _; exact absurd hμ (Nat.not_lt_zero _)
    | succ n ihn =>
      intro x2_1 x3_1 hμ4 hJ
      have ih4 := ihn
      replace hJ := hst4 x2_1 x3_1 hJ
      refine V_iload_n C dX1_unitsGot_4 3 rfl ?_
      refine V_aload_n C dX1_unitsGot_5 1 rfl ?_
      refine V_get (ci := 2) C (ok7 hj1) uX2 rfl 6 (Nat.le_of_ble_eq_true rfl) rfl rfl f40 dX1_unitsGot_6 ?_
      obtain ⟨hJt, hJf⟩ := hJ
      refine V_icmp_ge C (tgt := 27) dX1_unitsGot_9 rfl (fun hc2 => ?_) (fun hc2 => ?_)
      · have hJ := hJt hc2; clear hJt hJf
        refine V_iload_n C dX1_unitsGot_27 2 rfl ?_
        exact V_iret C hr hlocks dX1_unitsGot_28 hJ
      · have hJ := hJf hc2; clear hJt hJf
        refine V_iload_n C dX1_unitsGot_12 2 rfl ?_
        refine V_aload_n C dX1_unitsGot_13 0 rfl ?_
        refine V_get (ci := 1) C okX_3_0 uX1 rfl 1 (Nat.le_of_ble_eq_true rfl) rfl rfl f15 dX1_unitsGot_14 ?_
        refine V_iload_n C dX1_unitsGot_17 3 rfl ?_
        obtain ⟨hv3, hJ⟩ := hJ
        refine V_iald C okX_4_1 0 rfl rfl rfl hv3 dX1_unitsGot_18 ?_
        refine V_iadd C dX1_unitsGot_19 ?_
        refine V_topi (fun x2_4 hx2_4 => ?_)
        replace hJ := hJ x2_4 hx2_4
        refine V_istore_n (lv' := [(2, .int x2_4), (0, .ref (ad (3, 0, 0))), (1, .ref (ad (7, j1, 0))), (3, .int x3_1)]) C dX1_unitsGot_20 (by decide) rfl ?_
        obtain ⟨x3_5, hx3_5⟩ : ∃ y : Int32, y = x3_1 + 1 := ⟨_, rfl⟩
        replace hJ := hJ x3_5 hx3_5
        refine V_iinc (v := x3_5) (lv' := [(3, .int x3_5), (2, .int x2_4), (0, .ref (ad (3, 0, 0))), (1, .ref (ad (7, j1, 0)))]) C dX1_unitsGot_21 3 rfl (by rw [hx3_5]; exact congrArg _ ci_1) (by decide) rfl ?_
        refine V_goto C (tgt := 4) dX1_unitsGot_24 rfl ?_
        refine V_sub (lv' := [(0, .ref (ad (3, 0, 0))), (1, .ref (ad (7, j1, 0))), (2, .int x2_4), (3, .int x3_5)]) [2, 3, 1, 0] rfl ?_
        exact ih4 x2_4 x3_5 (Nat.lt_of_lt_of_le hJ.2 (Nat.le_of_lt_succ hμ4)) hJ.1
  exact L4 _ 0 0 (Nat.lt_succ_self _) hI4
set_option maxHeartbeats 4000000 in
set_option maxRecDepth 100000 in
theorem M_X5_unitsGotInTrial (l : Launch) (D : va_G) (tc : Nat → ClassId) (ad : Oid → Nat) (A : Nat → Prop) (x1 : Int32) (x2 : Int32) {σ : Mem} {Qr : Int32 → Mem → Prop} (hJ : J_X5_unitsGotInTrial x1 x2 σ Qr) : Met l yX5_unitsGotInTrial wsX5_unitsGotInTrial ({ frames := 4, cells := 0, slots := 0, locals := 93 }) (va_Pc [.ref (ad (0, 0, 0)), .int x1, .int x2] (WdI D vwCl (tysX tc) idsX ad (ceX tc ad) A σ)) (va_Qi (fun (r : Int32) (u : Mem) => Qr r u) (WdO D vwCl idsX ad (ceX tc ad) A) A) 0 0 A := by
  refine V_meti (cc := cX5_unitsGotInTrial) (nL := 3) (ret := (some .int)) (own := RX5) rfl (plainFor_of_name (by decide)) rfl rfl (Nat.le_of_ble_eq_true rfl) ?_
  intro p e s m below meth c C hr hlocks
  refine V_sub (lv' := [(0, .ref (ad (0, 0, 0))), (1, .int x1), (2, .int x2)]) [0, 1, 2] rfl ?_
  have f16 : Cond.fieldLink RX5 16 (TX5 1).1 (TX5 1).2.1 (TX5 1).2.2.1 ∈ wsX5_unitsGotInTrial := List.mem_of_getElem? (i := 1) rfl
  have uX5 : ∀ w ∈ u_ws RX5 TX5 6, w ∈ wsX5_unitsGotInTrial := by decide +kernel
  have f61 : Cond.fieldLink RX5 61 (TX2 0).1 (TX2 0).2.1 (TX2 0).2.2.1 ∈ wsX5_unitsGotInTrial := List.mem_of_getElem? (i := 2) rfl
  have uX2 : ∀ w ∈ u_ws RX2 TX2 10, w ∈ wsX5_unitsGotInTrial := by decide +kernel
  have f65 : Cond.fieldLink RX5 65 (TX0 1).1 (TX0 1).2.1 (TX0 1).2.2.1 ∈ wsX5_unitsGotInTrial := List.mem_of_getElem? (i := 3) rfl
  have uX0 : ∀ w ∈ u_ws RX0 TX0 3, w ∈ wsX5_unitsGotInTrial := by decide +kernel
  have f30 : Cond.fieldLink RX5 30 (TX5 4).1 (TX5 4).2.1 (TX5 4).2.2.1 ∈ wsX5_unitsGotInTrial := List.mem_of_getElem? (i := 4) rfl
  unfold J_X5_unitsGotInTrial at hJ
  refine V_aload_n C dX5_unitsGotInTrial_0 0 rfl ?_
  refine V_get (ci := 5) C okX_0_0 uX5 rfl 1 (Nat.le_of_ble_eq_true rfl) rfl rfl f16 dX5_unitsGotInTrial_1 ?_
  refine V_get (ci := 2) C (ok7 (by decide)) uX2 rfl 0 (Nat.le_of_ble_eq_true rfl) rfl rfl f61 dX5_unitsGotInTrial_4 ?_
  refine V_iload_n C dX5_unitsGotInTrial_7 1 rfl ?_
  obtain ⟨hv1, hJ⟩ := hJ
  refine V_aald (o' := (13, 1, x1.toNatClampNeg)) C (ok8 (by decide)) 3 rfl rfl hv1 rfl dX5_unitsGotInTrial_8 ?_
  refine V_iload_n C dX5_unitsGotInTrial_9 2 rfl ?_
  refine V_put (ci := 0) C (ok13 (by decide) (vp_lt hv1)) uX0 tyX0 tyX0_ok nmX0 rfl 1 (Nat.le_of_ble_eq_true rfl) rfl rfl f65 rfl (ty := .int) (by decide +kernel) rfl rfl (Nat.le_of_ble_eq_true rfl) dX5_unitsGotInTrial_10 (fun τ2 hτ2 => ?_)
  replace hJ := hJ τ2 hτ2
  refine V_aload_n C dX5_unitsGotInTrial_13 0 rfl ?_
  refine V_get (ci := 5) C okX_0_0 uX5 rfl 4 (Nat.le_of_ble_eq_true rfl) rfl rfl f30 dX5_unitsGotInTrial_14 ?_
  refine V_aload_n C dX5_unitsGotInTrial_17 0 rfl ?_
  refine V_get (ci := 5) C okX_0_0 uX5 rfl 1 (Nat.le_of_ble_eq_true rfl) rfl rfl f16 dX5_unitsGotInTrial_18 ?_
  refine V_cVv (st := []) (ci := 1) C okX_3_0 ⟨Nat.zero_le _, Nat.zero_le _⟩ (M_X1_distribute l D tc ad A 1 (by decide) hJ) (cwV 1 C.1.2.2.2.2 gX5_unitsGotInTrial_X1_distribute rfl rfl rfl (by decide +kernel) ⟨Nat.le_of_ble_eq_true rfl, Nat.le_of_ble_eq_true rfl⟩) rfl rfl rfl rfl (Nat.le_of_ble_eq_true rfl) dX5_unitsGotInTrial_21 (fun τ3 hJ => ?_)
  refine V_aload_n C dX5_unitsGotInTrial_24 0 rfl ?_
  refine V_get (ci := 5) C okX_0_0 uX5 rfl 4 (Nat.le_of_ble_eq_true rfl) rfl rfl f30 dX5_unitsGotInTrial_25 ?_
  refine V_aload_n C dX5_unitsGotInTrial_28 0 rfl ?_
  refine V_get (ci := 5) C okX_0_0 uX5 rfl 1 (Nat.le_of_ble_eq_true rfl) rfl rfl f16 dX5_unitsGotInTrial_29 ?_
  refine V_cVi (st := []) (ci := 1) C okX_3_0 ⟨Nat.zero_le _, Nat.zero_le _⟩ (M_X1_unitsGot l D tc ad A 1 (by decide) hJ) (cwV 1 C.1.2.2.2.2 gX5_unitsGotInTrial_X1_unitsGot rfl rfl rfl (by decide +kernel) ⟨Nat.le_of_ble_eq_true rfl, Nat.le_of_ble_eq_true rfl⟩) rfl rfl rfl rfl (Nat.le_of_ble_eq_true rfl) dX5_unitsGotInTrial_32 (fun r4 τ4 hJ => ?_)
  exact V_iret C hr hlocks dX5_unitsGotInTrial_35 hJ
set_option maxHeartbeats 4000000 in
set_option maxRecDepth 100000 in
theorem M_X5_usefulGate (l : Launch) (D : va_G) (tc : Nat → ClassId) (ad : Oid → Nat) (A : Nat → Prop) (x1 : Int32) {σ : Mem} {Qr : Int32 → Mem → Prop} (hJ : J_X5_usefulGate x1 σ Qr) : Met l yX5_usefulGate wsX5_usefulGate ({ frames := 5, cells := 0, slots := 0, locals := 115 }) (va_Pc [.ref (ad (0, 0, 0)), .int x1] (WdI D vwCl (tysX tc) idsX ad (ceX tc ad) A σ)) (va_Qi (fun (r : Int32) (u : Mem) => Qr r u) (WdO D vwCl idsX ad (ceX tc ad) A) A) 0 0 A := by
  refine V_meti (cc := cX5_usefulGate) (nL := 4) (ret := (some .int)) (own := RX5) rfl (plainFor_of_name (by decide)) rfl rfl (Nat.le_of_ble_eq_true rfl) ?_
  intro p e s m below meth c C hr hlocks
  refine V_sub (lv' := [(0, .ref (ad (0, 0, 0))), (1, .int x1)]) [0, 1] rfl ?_
  have f10 : Cond.fieldLink RX5 10 (TX5 0).1 (TX5 0).2.1 (TX5 0).2.2.1 ∈ wsX5_usefulGate := List.mem_of_getElem? (i := 1) rfl
  have uX5 : ∀ w ∈ u_ws RX5 TX5 6, w ∈ wsX5_usefulGate := by decide +kernel
  have f16 : Cond.fieldLink RX5 16 (TX5 1).1 (TX5 1).2.1 (TX5 1).2.2.1 ∈ wsX5_usefulGate := List.mem_of_getElem? (i := 2) rfl
  unfold J_X5_usefulGate at hJ
  refine V_aload_n C dX5_usefulGate_0 0 rfl ?_
  refine V_get (ci := 5) C okX_0_0 uX5 rfl 0 (Nat.le_of_ble_eq_true rfl) rfl rfl f10 dX5_usefulGate_1 ?_
  refine V_iload_n C dX5_usefulGate_4 1 rfl ?_
  refine V_cVi (st := []) (ci := 2) C (ok7 (by decide)) ⟨Nat.zero_le _, Nat.zero_le _⟩ (M_X2_hasDitch l D tc ad A 0 (by decide) x1 hJ) (cwV 1 C.1.2.2.2.2 gX5_usefulGate_X2_hasDitch rfl rfl rfl (by decide +kernel) ⟨Nat.le_of_ble_eq_true rfl, Nat.le_of_ble_eq_true rfl⟩) rfl rfl rfl rfl (Nat.le_of_ble_eq_true rfl) dX5_usefulGate_5 (fun r1 τ1 hJ => ?_)
  obtain ⟨hJt, hJf⟩ := hJ
  refine V_if_ne C (tgt := 14) dX5_usefulGate_8 rfl (fun hc2 => ?_) (fun hc2 => ?_)
  · have hJ := hJt hc2; clear hJt hJf
    refine V_aload_n C dX5_usefulGate_14 0 rfl ?_
    refine V_get (ci := 5) C okX_0_0 uX5 rfl 1 (Nat.le_of_ble_eq_true rfl) rfl rfl f16 dX5_usefulGate_15 ?_
    refine V_aload_n C dX5_usefulGate_18 0 rfl ?_
    refine V_get (ci := 5) C okX_0_0 uX5 rfl 0 (Nat.le_of_ble_eq_true rfl) rfl rfl f10 dX5_usefulGate_19 ?_
    refine V_cVv (st := []) (ci := 2) C (ok7 (by decide)) ⟨Nat.zero_le _, Nat.zero_le _⟩ (M_X2_copyFrom l D tc ad A 1 (by decide) 0 (by decide) hJ) (cwV 1 C.1.2.2.2.2 gX5_usefulGate_X2_copyFrom rfl rfl rfl (by decide +kernel) ⟨Nat.le_of_ble_eq_true rfl, Nat.le_of_ble_eq_true rfl⟩) rfl rfl rfl rfl (Nat.le_of_ble_eq_true rfl) dX5_usefulGate_22 (fun τ3 hJ => ?_)
    refine V_aload_n C dX5_usefulGate_25 0 rfl ?_
    refine V_iload_n C dX5_usefulGate_26 1 rfl ?_
    refine V_sipush (v := 200) C dX5_usefulGate_27 cs_200 ?_
    refine V_cVi (st := []) (ci := 5) C okX_0_0 ⟨Nat.zero_le _, Nat.zero_le _⟩ (M_X5_unitsGotInTrial l D tc ad A x1 200 hJ) (cwV 2 C.1.2.2.2.2 gX5_usefulGate_X5_unitsGotInTrial rfl rfl rfl (by decide +kernel) ⟨Nat.le_of_ble_eq_true rfl, Nat.le_of_ble_eq_true rfl⟩) rfl rfl rfl rfl (Nat.le_of_ble_eq_true rfl) dX5_usefulGate_30 (fun r4 τ4 hJ => ?_)
    refine V_istore_n (lv' := [(2, .int r4), (0, .ref (ad (0, 0, 0))), (1, .int x1)]) C dX5_usefulGate_33 (by decide) rfl ?_
    refine V_iconst (v := 1) C dX5_usefulGate_34 ci_1 ?_
    refine V_istore_n (lv' := [(3, .int 1), (2, .int r4), (0, .ref (ad (0, 0, 0))), (1, .int x1)]) C dX5_usefulGate_35 (by decide) rfl ?_
    refine V_sub (lv' := [(0, .ref (ad (0, 0, 0))), (1, .int x1), (2, .int r4), (3, .int 1)]) [2, 3, 1, 0] rfl ?_
    obtain ⟨I36, μ36, hI36, hst36⟩ := hJ
    have L36 : ∀ (n : Nat) (x3_5 : Int32) (τ5 : Mem), μ36 x3_5 τ5 < n → I36 x3_5 τ5 → VV p l e (headSpec wsX5_usefulGate ({ frames := 5, cells := 0, slots := 0, locals := 115 })).room s m ([.ref (ad (0, 0, 0)), .int x1] : List Value).toArray below meth c D vwCl idsX ad (ceX tc ad) A (MQ below (va_Qi (fun (r : Int32) (u : Mem) => Qr r u) (WdO D vwCl idsX ad (ceX tc ad) A) A) ([.ref (ad (0, 0, 0)), .int x1] : List Value).toArray s 0 0 A) 4 (0, 0) 36 [(0, .ref (ad (0, 0, 0))), (1, .int x1), (2, .int r4), (3, .int x3_5)] [] τ5 := by
      intro n
      induction n with
      | zero => intro x3_5 τ5 hμ _; exact absurd hμ (Nat.not_lt_zero _)
      | succ n ihn =>
        intro x3_5 τ5 hμ36 hJ
        have ih36 := ihn
        replace hJ := hst36 x3_5 τ5 hJ
        refine V_iload_n C dX5_usefulGate_36 3 rfl ?_
        refine V_sipush (v := 200) C dX5_usefulGate_37 cs_200 ?_
        obtain ⟨hJt, hJf⟩ := hJ
        refine V_icmp_ge C (tgt := 61) dX5_usefulGate_40 rfl (fun hc6 => ?_) (fun hc6 => ?_)
        · have hJ := hJt hc6; clear hJt hJf
          refine V_sipush (v := 200) C dX5_usefulGate_61 cs_200 ?_
          exact V_iret C hr hlocks dX5_usefulGate_64 hJ
        · have hJ := hJf hc6; clear hJt hJf
          refine V_aload_n C dX5_usefulGate_43 0 rfl ?_
          refine V_iload_n C dX5_usefulGate_44 1 rfl ?_
          refine V_iload_n C dX5_usefulGate_45 3 rfl ?_
          refine V_cVi (st := []) (ci := 5) C okX_0_0 ⟨Nat.zero_le _, Nat.zero_le _⟩ (M_X5_unitsGotInTrial l D tc ad A x1 x3_5 hJ) (cwV 2 C.1.2.2.2.2 gX5_usefulGate_X5_unitsGotInTrial rfl rfl rfl (by decide +kernel) ⟨Nat.le_of_ble_eq_true rfl, Nat.le_of_ble_eq_true rfl⟩) rfl rfl rfl rfl (Nat.le_of_ble_eq_true rfl) dX5_usefulGate_46 (fun r7 τ7 hJ => ?_)
          refine V_iload_n C dX5_usefulGate_49 2 rfl ?_
          obtain ⟨hJt, hJf⟩ := hJ
          refine V_icmp_ne C (tgt := 55) dX5_usefulGate_50 rfl (fun hc8 => ?_) (fun hc8 => ?_)
          · have hJ := hJt hc8; clear hJt hJf
            obtain ⟨x3_9, hx3_9⟩ : ∃ y : Int32, y = x3_5 + 1 := ⟨_, rfl⟩
            replace hJ := hJ x3_9 hx3_9
            refine V_iinc (v := x3_9) (lv' := [(3, .int x3_9), (0, .ref (ad (0, 0, 0))), (1, .int x1), (2, .int r4)]) C dX5_usefulGate_55 3 rfl (by rw [hx3_9]; exact congrArg _ ci_1) (by decide) rfl ?_
            refine V_goto C (tgt := 36) dX5_usefulGate_58 rfl ?_
            refine V_sub (lv' := [(0, .ref (ad (0, 0, 0))), (1, .int x1), (2, .int r4), (3, .int x3_9)]) [1, 2, 3, 0] rfl ?_
            exact ih36 x3_9 τ7 (Nat.lt_of_lt_of_le hJ.2 (Nat.le_of_lt_succ hμ36)) hJ.1
          · have hJ := hJf hc8; clear hJt hJf
            refine V_iload_n C dX5_usefulGate_53 3 rfl ?_
            exact V_iret C hr hlocks dX5_usefulGate_54 hJ
    exact L36 _ 1 τ4 (Nat.lt_succ_self _) hI36
  · have hJ := hJf hc2; clear hJt hJf
    refine V_bipush (v := (-101)) C dX5_usefulGate_11 cb_m101 ?_
    exact V_iret C hr hlocks dX5_usefulGate_13 hJ
set_option maxHeartbeats 4000000 in
set_option maxRecDepth 100000 in
theorem M_X5_withUser (l : Launch) (D : va_G) (tc : Nat → ClassId) (ad : Oid → Nat) (A : Nat → Prop) (y1 : Int64) (x3 : Int32) {σ : Mem} {Qr : Int64 → Mem → Prop} (hJ : J_X5_withUser y1 x3 σ Qr) : Met l yX5_withUser wsX5_withUser ({ frames := 0, cells := 0, slots := 0, locals := 0 }) (va_Pc [.ref (ad (0, 0, 0)), .long y1, .int x3] (WdI D vwCl (tysX tc) idsX ad (ceX tc ad) A σ)) (va_Ql (fun (r : Int64) (u : Mem) => Qr r u) (WdO D vwCl idsX ad (ceX tc ad) A) A) 0 0 A := by
  refine V_metl (cc := cX5_withUser) (nL := 7) (ret := (some .long)) (own := RX5) rfl (plainFor_of_name (by decide)) rfl rfl (Nat.le_of_ble_eq_true rfl) ?_
  intro p e s m below meth c C hr hlocks
  refine V_sub (lv' := [(0, .ref (ad (0, 0, 0))), (1, .long y1), (3, .int x3)]) [0, 1, 2] rfl ?_
  have f10 : Cond.fieldLink RX5 10 (TX5 0).1 (TX5 0).2.1 (TX5 0).2.2.1 ∈ wsX5_withUser := List.mem_of_getElem? (i := 1) rfl
  have uX5 : ∀ w ∈ u_ws RX5 TX5 6, w ∈ wsX5_withUser := by decide +kernel
  have f92 : Cond.fieldLink RX5 92 (TX2 1).1 (TX2 1).2.1 (TX2 1).2.2.1 ∈ wsX5_withUser := List.mem_of_getElem? (i := 2) rfl
  have uX2 : ∀ w ∈ u_ws RX2 TX2 10, w ∈ wsX5_withUser := by decide +kernel
  have f30 : Cond.fieldLink RX5 30 (TX5 4).1 (TX5 4).2.1 (TX5 4).2.2.1 ∈ wsX5_withUser := List.mem_of_getElem? (i := 4) rfl
  have f234 : Cond.fieldLink RX5 234 (TX1 0).1 (TX1 0).2.1 (TX1 0).2.2.1 ∈ wsX5_withUser := List.mem_of_getElem? (i := 5) rfl
  have uX1 : ∀ w ∈ u_ws RX1 TX1 6, w ∈ wsX5_withUser := by decide +kernel
  have f155 : Cond.fieldLink RX5 155 (TX1 1).1 (TX1 1).2.1 (TX1 1).2.2.1 ∈ wsX5_withUser := List.mem_of_getElem? (i := 6) rfl
  have f113 : Cond.fieldLink RX5 113 (TX4 7).1 (TX4 7).2.1 (TX4 7).2.2.1 ∈ wsX5_withUser := List.mem_of_getElem? (i := 7) rfl
  have uX4 : ∀ w ∈ u_ws RX4 TX4 12, w ∈ wsX5_withUser := by decide +kernel
  have f188 : Cond.fieldLink RX5 188 (TX4 10).1 (TX4 10).2.1 (TX4 10).2.2.1 ∈ wsX5_withUser := List.mem_of_getElem? (i := 8) rfl
  have f203 : Cond.fieldLink RX5 203 (TX4 11).1 (TX4 11).2.1 (TX4 11).2.2.1 ∈ wsX5_withUser := List.mem_of_getElem? (i := 9) rfl
  unfold J_X5_withUser at hJ
  refine V_aload_n C dX5_withUser_0 0 rfl ?_
  refine V_get (ci := 5) C okX_0_0 uX5 rfl 0 (Nat.le_of_ble_eq_true rfl) rfl rfl f10 dX5_withUser_1 ?_
  refine V_get (ci := 2) C (ok7 (by decide)) uX2 rfl 1 (Nat.le_of_ble_eq_true rfl) rfl rfl f92 dX5_withUser_4 ?_
  refine V_iload_n C dX5_withUser_7 2 rfl ?_
  obtain ⟨hv1, hJ⟩ := hJ
  refine V_aald (o' := (14, 0, x3.toNatClampNeg)) C (ok9 (by decide)) 4 rfl rfl hv1 rfl dX5_withUser_8 ?_
  refine V_astore (lv' := [(4, .ref (ad (14, 0, x3.toNatClampNeg))), (0, .ref (ad (0, 0, 0))), (1, .long y1), (3, .int x3)]) C dX5_withUser_9 (by decide) rfl ?_
  refine V_lload_n C dX5_withUser_11 2 rfl ?_
  refine V_lstore (lv' := [(5, .long y1), (4, .ref (ad (14, 0, x3.toNatClampNeg))), (0, .ref (ad (0, 0, 0))), (1, .long y1), (3, .int x3)]) C dX5_withUser_12 (by decide) rfl ?_
  refine V_ldc2 (v := 31) C (List.mem_of_getElem? (i := 3) rfl) dX5_withUser_14 ?_
  refine V_lload C dX5_withUser_17 0 rfl ?_
  refine V_lmul C dX5_withUser_19 ?_
  refine V_aload_n C dX5_withUser_20 2 rfl ?_
  refine V_get (ci := 5) C okX_0_0 uX5 rfl 4 (Nat.le_of_ble_eq_true rfl) rfl rfl f30 dX5_withUser_21 ?_
  refine V_get (ci := 1) C okX_3_0 uX1 rfl 0 (Nat.le_of_ble_eq_true rfl) rfl rfl f234 dX5_withUser_24 ?_
  refine V_iload_n C dX5_withUser_27 4 rfl ?_
  obtain ⟨hv2, hJ⟩ := hJ
  refine V_iald C okX_4_0 0 rfl rfl rfl hv2 dX5_withUser_28 ?_
  refine V_i2l C dX5_withUser_29 ?_
  refine V_ladd C dX5_withUser_30 ?_
  refine V_topl (fun y5_3 hy5_3 => ?_)
  replace hJ := hJ y5_3 hy5_3
  refine V_lstore (lv' := [(5, .long y5_3), (4, .ref (ad (14, 0, x3.toNatClampNeg))), (0, .ref (ad (0, 0, 0))), (1, .long y1), (3, .int x3)]) C dX5_withUser_31 (by decide) rfl ?_
  refine V_ldc2 (v := 31) C (List.mem_of_getElem? (i := 3) rfl) dX5_withUser_33 ?_
  refine V_lload C dX5_withUser_36 0 rfl ?_
  refine V_lmul C dX5_withUser_38 ?_
  refine V_aload_n C dX5_withUser_39 2 rfl ?_
  refine V_get (ci := 5) C okX_0_0 uX5 rfl 4 (Nat.le_of_ble_eq_true rfl) rfl rfl f30 dX5_withUser_40 ?_
  refine V_get (ci := 1) C okX_3_0 uX1 rfl 1 (Nat.le_of_ble_eq_true rfl) rfl rfl f155 dX5_withUser_43 ?_
  refine V_iload_n C dX5_withUser_46 4 rfl ?_
  obtain ⟨hv4, hJ⟩ := hJ
  refine V_iald C okX_4_1 0 rfl rfl rfl hv4 dX5_withUser_47 ?_
  refine V_i2l C dX5_withUser_48 ?_
  refine V_ladd C dX5_withUser_49 ?_
  refine V_topl (fun y5_5 hy5_5 => ?_)
  replace hJ := hJ y5_5 hy5_5
  refine V_lstore (lv' := [(5, .long y5_5), (4, .ref (ad (14, 0, x3.toNatClampNeg))), (0, .ref (ad (0, 0, 0))), (1, .long y1), (3, .int x3)]) C dX5_withUser_50 (by decide) rfl ?_
  refine V_ldc2 (v := 31) C (List.mem_of_getElem? (i := 3) rfl) dX5_withUser_52 ?_
  refine V_lload C dX5_withUser_55 0 rfl ?_
  refine V_lmul C dX5_withUser_57 ?_
  refine V_aload C dX5_withUser_58 1 rfl ?_
  refine V_get (ci := 4) C (ok14 (by decide) (vp_lt hv1)) uX4 rfl 7 (Nat.le_of_ble_eq_true rfl) rfl rfl f113 dX5_withUser_60 ?_
  refine V_i2l C dX5_withUser_63 ?_
  refine V_ladd C dX5_withUser_64 ?_
  refine V_topl (fun y5_6 hy5_6 => ?_)
  replace hJ := hJ y5_6 hy5_6
  refine V_lstore (lv' := [(5, .long y5_6), (4, .ref (ad (14, 0, x3.toNatClampNeg))), (0, .ref (ad (0, 0, 0))), (1, .long y1), (3, .int x3)]) C dX5_withUser_65 (by decide) rfl ?_
  refine V_ldc2 (v := 31) C (List.mem_of_getElem? (i := 3) rfl) dX5_withUser_67 ?_
  refine V_lload C dX5_withUser_70 0 rfl ?_
  refine V_lmul C dX5_withUser_72 ?_
  refine V_aload C dX5_withUser_73 1 rfl ?_
  refine V_get (ci := 4) C (ok14 (by decide) (vp_lt hv1)) uX4 rfl 10 (Nat.le_of_ble_eq_true rfl) rfl rfl f188 dX5_withUser_75 ?_
  refine V_i2l C dX5_withUser_78 ?_
  refine V_ladd C dX5_withUser_79 ?_
  refine V_topl (fun y5_7 hy5_7 => ?_)
  replace hJ := hJ y5_7 hy5_7
  refine V_lstore (lv' := [(5, .long y5_7), (4, .ref (ad (14, 0, x3.toNatClampNeg))), (0, .ref (ad (0, 0, 0))), (1, .long y1), (3, .int x3)]) C dX5_withUser_80 (by decide) rfl ?_
  refine V_ldc2 (v := 31) C (List.mem_of_getElem? (i := 3) rfl) dX5_withUser_82 ?_
  refine V_lload C dX5_withUser_85 0 rfl ?_
  refine V_lmul C dX5_withUser_87 ?_
  refine V_aload C dX5_withUser_88 1 rfl ?_
  refine V_get (ci := 4) C (ok14 (by decide) (vp_lt hv1)) uX4 rfl 11 (Nat.le_of_ble_eq_true rfl) rfl rfl f203 dX5_withUser_90 ?_
  obtain ⟨hJt, hJf⟩ := hJ
  refine V_if_eq C (tgt := 100) dX5_withUser_93 rfl (fun hc8 => ?_) (fun hc8 => ?_)
  · have hJ := hJt hc8; clear hJt hJf
    refine V_iconst (v := 0) C dX5_withUser_100 ci_0 ?_
    refine V_i2l C dX5_withUser_101 ?_
    refine V_ladd C dX5_withUser_102 ?_
    exact V_lret C hr hlocks dX5_withUser_103 hJ
  · have hJ := hJf hc8; clear hJt hJf
    refine V_iconst (v := 1) C dX5_withUser_96 ci_1 ?_
    refine V_goto C (tgt := 101) dX5_withUser_97 rfl ?_
    refine V_i2l C dX5_withUser_101 ?_
    refine V_ladd C dX5_withUser_102 ?_
    exact V_lret C hr hlocks dX5_withUser_103 hJ
set_option maxHeartbeats 4000000 in
set_option maxRecDepth 100000 in
theorem M_X5_checksum (l : Launch) (D : va_G) (tc : Nat → ClassId) (ad : Oid → Nat) (A : Nat → Prop) {σ : Mem} {Qr : Int64 → Mem → Prop} (hJ : J_X5_checksum σ Qr) : Met l yX5_checksum wsX5_checksum ({ frames := 4, cells := 0, slots := 0, locals := 93 }) (va_Pc [.ref (ad (0, 0, 0))] (WdI D vwCl (tysX tc) idsX ad (ceX tc ad) A σ)) (va_Ql (fun (r : Int64) (u : Mem) => Qr r u) (WdO D vwCl idsX ad (ceX tc ad) A) A) 0 0 A := by
  refine V_metl (cc := cX5_checksum) (nL := 4) (ret := (some .long)) (own := RX5) rfl (plainFor_of_name (by decide)) rfl rfl (Nat.le_of_ble_eq_true rfl) ?_
  intro p e s m below meth c C hr hlocks
  refine V_sub (lv' := [(0, .ref (ad (0, 0, 0)))]) [0] rfl ?_
  have f30 : Cond.fieldLink RX5 30 (TX5 4).1 (TX5 4).2.1 (TX5 4).2.2.1 ∈ wsX5_checksum := List.mem_of_getElem? (i := 1) rfl
  have uX5 : ∀ w ∈ u_ws RX5 TX5 6, w ∈ wsX5_checksum := by decide +kernel
  have f10 : Cond.fieldLink RX5 10 (TX5 0).1 (TX5 0).2.1 (TX5 0).2.2.1 ∈ wsX5_checksum := List.mem_of_getElem? (i := 2) rfl
  have f141 : Cond.fieldLink RX5 141 (TX2 9).1 (TX2 9).2.1 (TX2 9).2.2.1 ∈ wsX5_checksum := List.mem_of_getElem? (i := 5) rfl
  have uX2 : ∀ w ∈ u_ws RX2 TX2 10, w ∈ wsX5_checksum := by decide +kernel
  have f57 : Cond.fieldLink RX5 57 (TX2 5).1 (TX2 5).2.1 (TX2 5).2.2.1 ∈ wsX5_checksum := List.mem_of_getElem? (i := 6) rfl
  have f83 : Cond.fieldLink RX5 83 (TX2 6).1 (TX2 6).2.1 (TX2 6).2.2.1 ∈ wsX5_checksum := List.mem_of_getElem? (i := 7) rfl
  have f185 : Cond.fieldLink RX5 185 (TX2 4).1 (TX2 4).2.1 (TX2 4).2.2.1 ∈ wsX5_checksum := List.mem_of_getElem? (i := 9) rfl
  have f158 : Cond.fieldLink RX5 158 (TX1 2).1 (TX1 2).2.1 (TX1 2).2.2.1 ∈ wsX5_checksum := List.mem_of_getElem? (i := 8) rfl
  have uX1 : ∀ w ∈ u_ws RX1 TX1 6, w ∈ wsX5_checksum := by decide +kernel
  unfold J_X5_checksum at hJ
  refine V_aload_n C dX5_checksum_0 0 rfl ?_
  refine V_get (ci := 5) C okX_0_0 uX5 rfl 4 (Nat.le_of_ble_eq_true rfl) rfl rfl f30 dX5_checksum_1 ?_
  refine V_aload_n C dX5_checksum_4 0 rfl ?_
  refine V_get (ci := 5) C okX_0_0 uX5 rfl 0 (Nat.le_of_ble_eq_true rfl) rfl rfl f10 dX5_checksum_5 ?_
  refine V_cVv (st := []) (ci := 1) C okX_3_0 ⟨Nat.zero_le _, Nat.zero_le _⟩ (M_X1_distribute l D tc ad A 0 (by decide) hJ) (cwV 1 C.1.2.2.2.2 gX5_checksum_X1_distribute rfl rfl rfl (by decide +kernel) ⟨Nat.le_of_ble_eq_true rfl, Nat.le_of_ble_eq_true rfl⟩) rfl rfl rfl rfl (Nat.le_of_ble_eq_true rfl) dX5_checksum_8 (fun τ1 hJ => ?_)
  refine V_ldc2 (v := 53) C (List.mem_of_getElem? (i := 3) rfl) dX5_checksum_11 ?_
  refine V_topl (fun y1_2 hy1_2 => ?_)
  replace hJ := hJ y1_2 hy1_2
  refine V_lstore_n (lv' := [(1, .long y1_2), (0, .ref (ad (0, 0, 0)))]) C dX5_checksum_14 (by decide) rfl ?_
  refine V_ldc2 (v := 31) C (List.mem_of_getElem? (i := 4) rfl) dX5_checksum_15 ?_
  refine V_lload_n C dX5_checksum_18 0 rfl ?_
  refine V_lmul C dX5_checksum_19 ?_
  refine V_aload_n C dX5_checksum_20 1 rfl ?_
  refine V_get (ci := 5) C okX_0_0 uX5 rfl 0 (Nat.le_of_ble_eq_true rfl) rfl rfl f10 dX5_checksum_21 ?_
  refine V_get (ci := 2) C (ok7 (by decide)) uX2 rfl 9 (Nat.le_of_ble_eq_true rfl) rfl rfl f141 dX5_checksum_24 ?_
  refine V_i2l C dX5_checksum_27 ?_
  refine V_ladd C dX5_checksum_28 ?_
  refine V_topl (fun y1_3 hy1_3 => ?_)
  replace hJ := hJ y1_3 hy1_3
  refine V_lstore_n (lv' := [(1, .long y1_3), (0, .ref (ad (0, 0, 0)))]) C dX5_checksum_29 (by decide) rfl ?_
  refine V_ldc2 (v := 31) C (List.mem_of_getElem? (i := 4) rfl) dX5_checksum_30 ?_
  refine V_lload_n C dX5_checksum_33 0 rfl ?_
  refine V_lmul C dX5_checksum_34 ?_
  refine V_aload_n C dX5_checksum_35 1 rfl ?_
  refine V_get (ci := 5) C okX_0_0 uX5 rfl 0 (Nat.le_of_ble_eq_true rfl) rfl rfl f10 dX5_checksum_36 ?_
  refine V_get (ci := 2) C (ok7 (by decide)) uX2 rfl 5 (Nat.le_of_ble_eq_true rfl) rfl rfl f57 dX5_checksum_39 ?_
  refine V_i2l C dX5_checksum_42 ?_
  refine V_ladd C dX5_checksum_43 ?_
  refine V_topl (fun y1_4 hy1_4 => ?_)
  replace hJ := hJ y1_4 hy1_4
  refine V_lstore_n (lv' := [(1, .long y1_4), (0, .ref (ad (0, 0, 0)))]) C dX5_checksum_44 (by decide) rfl ?_
  refine V_ldc2 (v := 31) C (List.mem_of_getElem? (i := 4) rfl) dX5_checksum_45 ?_
  refine V_lload_n C dX5_checksum_48 0 rfl ?_
  refine V_lmul C dX5_checksum_49 ?_
  refine V_aload_n C dX5_checksum_50 1 rfl ?_
  refine V_get (ci := 5) C okX_0_0 uX5 rfl 0 (Nat.le_of_ble_eq_true rfl) rfl rfl f10 dX5_checksum_51 ?_
  refine V_get (ci := 2) C (ok7 (by decide)) uX2 rfl 6 (Nat.le_of_ble_eq_true rfl) rfl rfl f83 dX5_checksum_54 ?_
  refine V_i2l C dX5_checksum_57 ?_
  refine V_ladd C dX5_checksum_58 ?_
  refine V_topl (fun y1_5 hy1_5 => ?_)
  replace hJ := hJ y1_5 hy1_5
  refine V_lstore_n (lv' := [(1, .long y1_5), (0, .ref (ad (0, 0, 0)))]) C dX5_checksum_59 (by decide) rfl ?_
  refine V_iconst (v := 0) C dX5_checksum_60 ci_0 ?_
  refine V_istore_n (lv' := [(3, .int 0), (1, .long y1_5), (0, .ref (ad (0, 0, 0)))]) C dX5_checksum_61 (by decide) rfl ?_
  refine V_sub (lv' := [(0, .ref (ad (0, 0, 0))), (1, .long y1_5), (3, .int 0)]) [2, 1, 0] rfl ?_
  obtain ⟨I62, μ62, hI62, hst62⟩ := hJ
  have L62 : ∀ (n : Nat) (y1_6 : Int64) (x3_6 : Int32) (τ6 : Mem), μ62 y1_6 x3_6 τ6 < n → I62 y1_6 x3_6 τ6 → VV p l e (headSpec wsX5_checksum ({ frames := 4, cells := 0, slots := 0, locals := 93 })).room s m ([.ref (ad (0, 0, 0))] : List Value).toArray below meth c D vwCl idsX ad (ceX tc ad) A (MQ below (va_Ql (fun (r : Int64) (u : Mem) => Qr r u) (WdO D vwCl idsX ad (ceX tc ad) A) A) ([.ref (ad (0, 0, 0))] : List Value).toArray s 0 0 A) 4 (0, 0) 62 [(0, .ref (ad (0, 0, 0))), (1, .long y1_6), (3, .int x3_6)] [] τ6 := by
    intro n
    induction n with
    | zero => intro y1_6 x3_6 τ6 hμ _; exact absurd hμ (Nat.not_lt_zero _)
    | succ n ihn =>
      intro y1_6 x3_6 τ6 hμ62 hJ
      have ih62 := ihn
      replace hJ := hst62 y1_6 x3_6 τ6 hJ
      refine V_iload_n C dX5_checksum_62 2 rfl ?_
      refine V_aload_n C dX5_checksum_63 0 rfl ?_
      refine V_get (ci := 5) C okX_0_0 uX5 rfl 0 (Nat.le_of_ble_eq_true rfl) rfl rfl f10 dX5_checksum_64 ?_
      refine V_get (ci := 2) C (ok7 (by decide)) uX2 rfl 5 (Nat.le_of_ble_eq_true rfl) rfl rfl f57 dX5_checksum_67 ?_
      obtain ⟨hJt, hJf⟩ := hJ
      refine V_icmp_ge C (tgt := 112) dX5_checksum_70 rfl (fun hc7 => ?_) (fun hc7 => ?_)
      · have hJ := hJt hc7; clear hJt hJf
        refine V_iconst (v := 0) C dX5_checksum_112 ci_0 ?_
        refine V_istore_n (lv' := [(3, .int 0), (0, .ref (ad (0, 0, 0))), (1, .long y1_6)]) C dX5_checksum_113 (by decide) rfl ?_
        refine V_sub (lv' := [(0, .ref (ad (0, 0, 0))), (1, .long y1_6), (3, .int 0)]) [1, 2, 0] rfl ?_
        obtain ⟨I114, μ114, hI114, hst114⟩ := hJ
        have L114 : ∀ (n : Nat) (y1_8 : Int64) (x3_8 : Int32) (τ8 : Mem), μ114 y1_8 x3_8 τ8 < n → I114 y1_8 x3_8 τ8 → VV p l e (headSpec wsX5_checksum ({ frames := 4, cells := 0, slots := 0, locals := 93 })).room s m ([.ref (ad (0, 0, 0))] : List Value).toArray below meth c D vwCl idsX ad (ceX tc ad) A (MQ below (va_Ql (fun (r : Int64) (u : Mem) => Qr r u) (WdO D vwCl idsX ad (ceX tc ad) A) A) ([.ref (ad (0, 0, 0))] : List Value).toArray s 0 0 A) 4 (0, 0) 114 [(0, .ref (ad (0, 0, 0))), (1, .long y1_8), (3, .int x3_8)] [] τ8 := by
          intro n
          induction n with
          | zero => intro y1_8 x3_8 τ8 hμ _; exact absurd hμ (Nat.not_lt_zero _)
          | succ n ihn =>
            intro y1_8 x3_8 τ8 hμ114 hJ
            have ih114 := ihn
            replace hJ := hst114 y1_8 x3_8 τ8 hJ
            refine V_iload_n C dX5_checksum_114 2 rfl ?_
            refine V_aload_n C dX5_checksum_115 0 rfl ?_
            refine V_get (ci := 5) C okX_0_0 uX5 rfl 0 (Nat.le_of_ble_eq_true rfl) rfl rfl f10 dX5_checksum_116 ?_
            refine V_get (ci := 2) C (ok7 (by decide)) uX2 rfl 6 (Nat.le_of_ble_eq_true rfl) rfl rfl f83 dX5_checksum_119 ?_
            obtain ⟨hJt, hJf⟩ := hJ
            refine V_icmp_ge C (tgt := 138) dX5_checksum_122 rfl (fun hc9 => ?_) (fun hc9 => ?_)
            · have hJ := hJt hc9; clear hJt hJf
              refine V_iconst (v := 0) C dX5_checksum_138 ci_0 ?_
              refine V_istore_n (lv' := [(3, .int 0), (0, .ref (ad (0, 0, 0))), (1, .long y1_8)]) C dX5_checksum_139 (by decide) rfl ?_
              refine V_sub (lv' := [(0, .ref (ad (0, 0, 0))), (1, .long y1_8), (3, .int 0)]) [1, 2, 0] rfl ?_
              obtain ⟨I140, μ140, hI140, hst140⟩ := hJ
              have L140 : ∀ (n : Nat) (y1_10 : Int64) (x3_10 : Int32), μ140 y1_10 x3_10 < n → I140 y1_10 x3_10 → VV p l e (headSpec wsX5_checksum ({ frames := 4, cells := 0, slots := 0, locals := 93 })).room s m ([.ref (ad (0, 0, 0))] : List Value).toArray below meth c D vwCl idsX ad (ceX tc ad) A (MQ below (va_Ql (fun (r : Int64) (u : Mem) => Qr r u) (WdO D vwCl idsX ad (ceX tc ad) A) A) ([.ref (ad (0, 0, 0))] : List Value).toArray s 0 0 A) 4 (0, 0) 140 [(0, .ref (ad (0, 0, 0))), (1, .long y1_10), (3, .int x3_10)] [] τ8 := by
                intro n
                induction n with
                | zero => intro y1_10 x3_10 hμ _; exact absurd hμ (Nat.not_lt_zero _)
                | succ n ihn =>
                  intro y1_10 x3_10 hμ140 hJ
                  have ih140 := ihn
                  replace hJ := hst140 y1_10 x3_10 hJ
                  refine V_iload_n C dX5_checksum_140 2 rfl ?_
                  refine V_bipush (v := 7) C dX5_checksum_141 cb_7 ?_
                  obtain ⟨hJt, hJf⟩ := hJ
                  refine V_icmp_ge C (tgt := 169) dX5_checksum_143 rfl (fun hc11 => ?_) (fun hc11 => ?_)
                  · have hJ := hJt hc11; clear hJt hJf
                    refine V_ldc2 (v := 31) C (List.mem_of_getElem? (i := 4) rfl) dX5_checksum_169 ?_
                    refine V_lload_n C dX5_checksum_172 1 rfl ?_
                    refine V_lmul C dX5_checksum_173 ?_
                    refine V_aload_n C dX5_checksum_174 0 rfl ?_
                    refine V_get (ci := 5) C okX_0_0 uX5 rfl 0 (Nat.le_of_ble_eq_true rfl) rfl rfl f10 dX5_checksum_175 ?_
                    refine V_cVi (st := [.long ((31 : Int64) * y1_10)]) (ci := 2) C (ok7 (by decide)) ⟨Nat.zero_le _, Nat.zero_le _⟩ (M_X2_userInTurn l D tc ad A 0 (by decide) hJ) (cwV 0 C.1.2.2.2.2 gX5_checksum_X2_userInTurn rfl rfl rfl (by decide +kernel) ⟨Nat.le_of_ble_eq_true rfl, Nat.le_of_ble_eq_true rfl⟩) rfl rfl rfl rfl (Nat.le_of_ble_eq_true rfl) dX5_checksum_178 (fun r12 τ12 hJ => ?_)
                    refine V_i2l C dX5_checksum_181 ?_
                    refine V_ladd C dX5_checksum_182 ?_
                    exact V_lret C hr hlocks dX5_checksum_183 hJ
                  · have hJ := hJf hc11; clear hJt hJf
                    refine V_ldc2 (v := 31) C (List.mem_of_getElem? (i := 4) rfl) dX5_checksum_146 ?_
                    refine V_lload_n C dX5_checksum_149 1 rfl ?_
                    refine V_lmul C dX5_checksum_150 ?_
                    refine V_aload_n C dX5_checksum_151 0 rfl ?_
                    refine V_get (ci := 5) C okX_0_0 uX5 rfl 0 (Nat.le_of_ble_eq_true rfl) rfl rfl f10 dX5_checksum_152 ?_
                    refine V_get (ci := 2) C (ok7 (by decide)) uX2 rfl 4 (Nat.le_of_ble_eq_true rfl) rfl rfl f185 dX5_checksum_155 ?_
                    refine V_iload_n C dX5_checksum_158 2 rfl ?_
                    obtain ⟨hv13, hJ⟩ := hJ
                    refine V_iald C (ok12 (by decide)) 0 rfl rfl rfl hv13 dX5_checksum_159 ?_
                    refine V_i2l C dX5_checksum_160 ?_
                    refine V_ladd C dX5_checksum_161 ?_
                    refine V_topl (fun y1_14 hy1_14 => ?_)
                    replace hJ := hJ y1_14 hy1_14
                    refine V_lstore_n (lv' := [(1, .long y1_14), (0, .ref (ad (0, 0, 0))), (3, .int x3_10)]) C dX5_checksum_162 (by decide) rfl ?_
                    obtain ⟨x3_15, hx3_15⟩ : ∃ y : Int32, y = x3_10 + 1 := ⟨_, rfl⟩
                    replace hJ := hJ x3_15 hx3_15
                    refine V_iinc (v := x3_15) (lv' := [(3, .int x3_15), (1, .long y1_14), (0, .ref (ad (0, 0, 0)))]) C dX5_checksum_163 2 rfl (by rw [hx3_15]; exact congrArg _ ci_1) (by decide) rfl ?_
                    refine V_goto C (tgt := 140) dX5_checksum_166 rfl ?_
                    refine V_sub (lv' := [(0, .ref (ad (0, 0, 0))), (1, .long y1_14), (3, .int x3_15)]) [2, 1, 0] rfl ?_
                    exact ih140 y1_14 x3_15 (Nat.lt_of_lt_of_le hJ.2 (Nat.le_of_lt_succ hμ140)) hJ.1
              exact L140 _ y1_8 0 (Nat.lt_succ_self _) hI140
            · have hJ := hJf hc9; clear hJt hJf
              refine V_aload_n C dX5_checksum_125 0 rfl ?_
              refine V_lload_n C dX5_checksum_126 1 rfl ?_
              refine V_iload_n C dX5_checksum_127 2 rfl ?_
              refine V_cVl (st := []) (ci := 5) C okX_0_0 ⟨Nat.zero_le _, Nat.zero_le _⟩ (M_X5_withUser l D tc ad A y1_8 x3_8 hJ) (cwV 2 C.1.2.2.2.2 gX5_checksum_X5_withUser rfl rfl rfl (by decide +kernel) ⟨Nat.le_of_ble_eq_true rfl, Nat.le_of_ble_eq_true rfl⟩) rfl rfl rfl rfl (Nat.le_of_ble_eq_true rfl) dX5_checksum_128 (fun r16 τ16 hJ => ?_)
              refine V_lstore_n (lv' := [(1, .long r16), (0, .ref (ad (0, 0, 0))), (3, .int x3_8)]) C dX5_checksum_131 (by decide) rfl ?_
              obtain ⟨x3_17, hx3_17⟩ : ∃ y : Int32, y = x3_8 + 1 := ⟨_, rfl⟩
              replace hJ := hJ x3_17 hx3_17
              refine V_iinc (v := x3_17) (lv' := [(3, .int x3_17), (1, .long r16), (0, .ref (ad (0, 0, 0)))]) C dX5_checksum_132 2 rfl (by rw [hx3_17]; exact congrArg _ ci_1) (by decide) rfl ?_
              refine V_goto C (tgt := 114) dX5_checksum_135 rfl ?_
              refine V_sub (lv' := [(0, .ref (ad (0, 0, 0))), (1, .long r16), (3, .int x3_17)]) [2, 1, 0] rfl ?_
              exact ih114 r16 x3_17 τ16 (Nat.lt_of_lt_of_le hJ.2 (Nat.le_of_lt_succ hμ114)) hJ.1
        exact L114 _ y1_6 0 τ6 (Nat.lt_succ_self _) hI114
      · have hJ := hJf hc7; clear hJt hJf
        refine V_ldc2 (v := 31) C (List.mem_of_getElem? (i := 4) rfl) dX5_checksum_73 ?_
        refine V_lload_n C dX5_checksum_76 1 rfl ?_
        refine V_lmul C dX5_checksum_77 ?_
        refine V_aload_n C dX5_checksum_78 0 rfl ?_
        refine V_get (ci := 5) C okX_0_0 uX5 rfl 4 (Nat.le_of_ble_eq_true rfl) rfl rfl f30 dX5_checksum_79 ?_
        refine V_get (ci := 1) C okX_3_0 uX1 rfl 2 (Nat.le_of_ble_eq_true rfl) rfl rfl f158 dX5_checksum_82 ?_
        refine V_iload_n C dX5_checksum_85 2 rfl ?_
        obtain ⟨hv18, hJ⟩ := hJ
        refine V_iald C okX_15_0 0 rfl rfl rfl hv18 dX5_checksum_86 ?_
        refine V_i2l C dX5_checksum_87 ?_
        refine V_ladd C dX5_checksum_88 ?_
        refine V_topl (fun y1_19 hy1_19 => ?_)
        replace hJ := hJ y1_19 hy1_19
        refine V_lstore_n (lv' := [(1, .long y1_19), (0, .ref (ad (0, 0, 0))), (3, .int x3_6)]) C dX5_checksum_89 (by decide) rfl ?_
        refine V_ldc2 (v := 31) C (List.mem_of_getElem? (i := 4) rfl) dX5_checksum_90 ?_
        refine V_lload_n C dX5_checksum_93 0 rfl ?_
        refine V_lmul C dX5_checksum_94 ?_
        refine V_aload_n C dX5_checksum_95 1 rfl ?_
        refine V_get (ci := 5) C okX_0_0 uX5 rfl 4 (Nat.le_of_ble_eq_true rfl) rfl rfl f30 dX5_checksum_96 ?_
        refine V_iload_n C dX5_checksum_99 2 rfl ?_
        refine V_cVi (st := [.long ((31 : Int64) * y1_19)]) (ci := 1) C okX_3_0 ⟨Nat.zero_le _, Nat.zero_le _⟩ (M_X1_lostIn l D tc ad A x3_6 hJ) (cwV 1 C.1.2.2.2.2 gX5_checksum_X1_lostIn rfl rfl rfl (by decide +kernel) ⟨Nat.le_of_ble_eq_true rfl, Nat.le_of_ble_eq_true rfl⟩) rfl rfl rfl rfl (Nat.le_of_ble_eq_true rfl) dX5_checksum_100 (fun r20 τ20 hJ => ?_)
        refine V_i2l C dX5_checksum_103 ?_
        refine V_ladd C dX5_checksum_104 ?_
        refine V_topl (fun y1_21 hy1_21 => ?_)
        replace hJ := hJ y1_21 hy1_21
        refine V_lstore_n (lv' := [(1, .long y1_21), (0, .ref (ad (0, 0, 0))), (3, .int x3_6)]) C dX5_checksum_105 (by decide) rfl ?_
        obtain ⟨x3_22, hx3_22⟩ : ∃ y : Int32, y = x3_6 + 1 := ⟨_, rfl⟩
        replace hJ := hJ x3_22 hx3_22
        refine V_iinc (v := x3_22) (lv' := [(3, .int x3_22), (1, .long y1_21), (0, .ref (ad (0, 0, 0)))]) C dX5_checksum_106 2 rfl (by rw [hx3_22]; exact congrArg _ ci_1) (by decide) rfl ?_
        refine V_goto C (tgt := 62) dX5_checksum_109 rfl ?_
        refine V_sub (lv' := [(0, .ref (ad (0, 0, 0))), (1, .long y1_21), (3, .int x3_22)]) [2, 1, 0] rfl ?_
        exact ih62 y1_21 x3_22 τ20 (Nat.lt_of_lt_of_le hJ.2 (Nat.le_of_lt_succ hμ62)) hJ.1
  exact L62 _ y1_5 0 τ1 (Nat.lt_succ_self _) hI62
set_option maxHeartbeats 4000000 in
set_option maxRecDepth 100000 in
theorem M_X5_setTurn (l : Launch) (D : va_G) (tc : Nat → ClassId) (ad : Oid → Nat) (A : Nat → Prop) (x1 : Int32) (x2 : Int32) {σ : Mem} {Qr : Int32 → Mem → Prop} (hJ : J_X5_setTurn x1 x2 σ Qr) : Met l yX5_setTurn wsX5_setTurn ({ frames := 1, cells := 0, slots := 0, locals := 22 }) (va_Pc [.ref (ad (0, 0, 0)), .int x1, .int x2] (WdI D vwCl (tysX tc) idsX ad (ceX tc ad) A σ)) (va_Qi (fun (r : Int32) (u : Mem) => Qr r u) (WdO D vwCl idsX ad (ceX tc ad) A) A) 0 0 A := by
  refine V_meti (cc := cX5_setTurn) (nL := 5) (ret := (some .int)) (own := RX5) rfl (plainFor_of_name (by decide)) rfl rfl (Nat.le_of_ble_eq_true rfl) ?_
  intro p e s m below meth c C hr hlocks
  refine V_sub (lv' := [(0, .ref (ad (0, 0, 0))), (1, .int x1), (2, .int x2)]) [0, 1, 2] rfl ?_
  have f10 : Cond.fieldLink RX5 10 (TX5 0).1 (TX5 0).2.1 (TX5 0).2.2.1 ∈ wsX5_setTurn := List.mem_of_getElem? (i := 1) rfl
  have uX5 : ∀ w ∈ u_ws RX5 TX5 6, w ∈ wsX5_setTurn := by decide +kernel
  have f92 : Cond.fieldLink RX5 92 (TX2 1).1 (TX2 1).2.1 (TX2 1).2.2.1 ∈ wsX5_setTurn := List.mem_of_getElem? (i := 2) rfl
  have uX2 : ∀ w ∈ u_ws RX2 TX2 10, w ∈ wsX5_setTurn := by decide +kernel
  have f122 : Cond.fieldLink RX5 122 (TX4 9).1 (TX4 9).2.1 (TX4 9).2.2.1 ∈ wsX5_setTurn := List.mem_of_getElem? (i := 3) rfl
  have uX4 : ∀ w ∈ u_ws RX4 TX4 12, w ∈ wsX5_setTurn := by decide +kernel
  unfold J_X5_setTurn at hJ
  refine V_aload_n C dX5_setTurn_0 0 rfl ?_
  refine V_get (ci := 5) C okX_0_0 uX5 rfl 0 (Nat.le_of_ble_eq_true rfl) rfl rfl f10 dX5_setTurn_1 ?_
  refine V_iload_n C dX5_setTurn_4 1 rfl ?_
  refine V_cVi (st := []) (ci := 2) C (ok7 (by decide)) ⟨Nat.zero_le _, Nat.zero_le _⟩ (M_X2_hasUser l D tc ad A 0 (by decide) x1 hJ) (cwV 1 C.1.2.2.2.2 gX5_setTurn_X2_hasUser rfl rfl rfl (by decide +kernel) ⟨Nat.le_of_ble_eq_true rfl, Nat.le_of_ble_eq_true rfl⟩) rfl rfl rfl rfl (Nat.le_of_ble_eq_true rfl) dX5_setTurn_5 (fun r1 τ1 hJ => ?_)
  obtain ⟨hJt, hJf⟩ := hJ
  refine V_if_ne C (tgt := 14) dX5_setTurn_8 rfl (fun hc2 => ?_) (fun hc2 => ?_)
  · have hJ := hJt hc2; clear hJt hJf
    refine V_iload_n C dX5_setTurn_14 2 rfl ?_
    refine V_iconst (v := 0) C dX5_setTurn_15 ci_0 ?_
    refine V_bipush (v := 24) C dX5_setTurn_16 cb_24 ?_
    refine V_cSi (st := []) C ⟨Nat.zero_le _, Nat.zero_le _⟩ (M_X5_isWithin l D tc ad A x2 0 24 hJ) (va_cwS 3 C.1.2.2.2.2 gX5_setTurn_X5_isWithin rfl rfl rfl (by decide +kernel) ⟨Nat.le_of_ble_eq_true rfl, Nat.le_of_ble_eq_true rfl⟩) rfl rfl (Nat.le_of_ble_eq_true rfl) dX5_setTurn_18 (fun r3 τ3 hJ => ?_)
    obtain ⟨hJt, hJf⟩ := hJ
    refine V_if_ne C (tgt := 27) dX5_setTurn_21 rfl (fun hc4 => ?_) (fun hc4 => ?_)
    · have hJ := hJt hc4; clear hJt hJf
      refine V_aload_n C dX5_setTurn_27 0 rfl ?_
      refine V_get (ci := 5) C okX_0_0 uX5 rfl 0 (Nat.le_of_ble_eq_true rfl) rfl rfl f10 dX5_setTurn_28 ?_
      refine V_get (ci := 2) C (ok7 (by decide)) uX2 rfl 1 (Nat.le_of_ble_eq_true rfl) rfl rfl f92 dX5_setTurn_31 ?_
      refine V_iload_n C dX5_setTurn_34 1 rfl ?_
      obtain ⟨hv5, hJ⟩ := hJ
      refine V_aald (o' := (14, 0, x1.toNatClampNeg)) C (ok9 (by decide)) 4 rfl rfl hv5 rfl dX5_setTurn_35 ?_
      refine V_astore_n (lv' := [(3, .ref (ad (14, 0, x1.toNatClampNeg))), (0, .ref (ad (0, 0, 0))), (1, .int x1), (2, .int x2)]) C dX5_setTurn_36 (by decide) rfl ?_
      refine V_aload_n C dX5_setTurn_37 0 rfl ?_
      refine V_get (ci := 4) C (ok14 (by decide) (vp_lt hv5)) uX4 rfl 9 (Nat.le_of_ble_eq_true rfl) rfl rfl f122 dX5_setTurn_38 ?_
      refine V_topi (fun x4_6 hx4_6 => ?_)
      replace hJ := hJ x4_6 hx4_6
      refine V_istore (lv' := [(4, .int x4_6), (3, .ref (ad (14, 0, x1.toNatClampNeg))), (0, .ref (ad (0, 0, 0))), (1, .int x1), (2, .int x2)]) C dX5_setTurn_41 (by decide) rfl ?_
      refine V_aload_n C dX5_setTurn_43 1 rfl ?_
      refine V_iload_n C dX5_setTurn_44 4 rfl ?_
      refine V_put (ci := 4) C (ok14 (by decide) (vp_lt hv5)) uX4 tyX4 tyX4_ok nmX4 rfl 9 (Nat.le_of_ble_eq_true rfl) rfl rfl f122 rfl (ty := .int) (by decide +kernel) rfl rfl (Nat.le_of_ble_eq_true rfl) dX5_setTurn_45 (fun τ7 hτ7 => ?_)
      replace hJ := hJ τ7 hτ7
      refine V_iload C dX5_setTurn_48 0 rfl ?_
      exact V_iret C hr hlocks dX5_setTurn_50 hJ
    · have hJ := hJf hc4; clear hJt hJf
      refine V_bipush (v := (-102)) C dX5_setTurn_24 cb_m102 ?_
      exact V_iret C hr hlocks dX5_setTurn_26 hJ
  · have hJ := hJf hc2; clear hJt hJf
    refine V_bipush (v := (-101)) C dX5_setTurn_11 cb_m101 ?_
    exact V_iret C hr hlocks dX5_setTurn_13 hJ
set_option maxHeartbeats 4000000 in
set_option maxRecDepth 100000 in
theorem M_X5_setFutile (l : Launch) (D : va_G) (tc : Nat → ClassId) (ad : Oid → Nat) (A : Nat → Prop) (x1 : Int32) {σ : Mem} {Qr : Int32 → Mem → Prop} (hJ : J_X5_setFutile x1 σ Qr) : Met l yX5_setFutile wsX5_setFutile ({ frames := 1, cells := 0, slots := 0, locals := 22 }) (va_Pc [.ref (ad (0, 0, 0)), .int x1] (WdI D vwCl (tysX tc) idsX ad (ceX tc ad) A σ)) (va_Qi (fun (r : Int32) (u : Mem) => Qr r u) (WdO D vwCl idsX ad (ceX tc ad) A) A) 0 0 A := by
  refine V_meti (cc := cX5_setFutile) (nL := 3) (ret := (some .int)) (own := RX5) rfl (plainFor_of_name (by decide)) rfl rfl (Nat.le_of_ble_eq_true rfl) ?_
  intro p e s m below meth c C hr hlocks
  refine V_sub (lv' := [(0, .ref (ad (0, 0, 0))), (1, .int x1)]) [0, 1] rfl ?_
  have f10 : Cond.fieldLink RX5 10 (TX5 0).1 (TX5 0).2.1 (TX5 0).2.2.1 ∈ wsX5_setFutile := List.mem_of_getElem? (i := 1) rfl
  have uX5 : ∀ w ∈ u_ws RX5 TX5 6, w ∈ wsX5_setFutile := by decide +kernel
  have f135 : Cond.fieldLink RX5 135 (TX2 8).1 (TX2 8).2.1 (TX2 8).2.2.1 ∈ wsX5_setFutile := List.mem_of_getElem? (i := 2) rfl
  have uX2 : ∀ w ∈ u_ws RX2 TX2 10, w ∈ wsX5_setFutile := by decide +kernel
  unfold J_X5_setFutile at hJ
  refine V_iload_n C dX5_setFutile_0 1 rfl ?_
  refine V_iconst (v := 0) C dX5_setFutile_1 ci_0 ?_
  refine V_bipush (v := 100) C dX5_setFutile_2 cb_100 ?_
  refine V_cSi (st := []) C ⟨Nat.zero_le _, Nat.zero_le _⟩ (M_X5_isWithin l D tc ad A x1 0 100 hJ) (va_cwS 3 C.1.2.2.2.2 gX5_setFutile_X5_isWithin rfl rfl rfl (by decide +kernel) ⟨Nat.le_of_ble_eq_true rfl, Nat.le_of_ble_eq_true rfl⟩) rfl rfl (Nat.le_of_ble_eq_true rfl) dX5_setFutile_4 (fun r1 τ1 hJ => ?_)
  obtain ⟨hJt, hJf⟩ := hJ
  refine V_if_ne C (tgt := 13) dX5_setFutile_7 rfl (fun hc2 => ?_) (fun hc2 => ?_)
  · have hJ := hJt hc2; clear hJt hJf
    refine V_aload_n C dX5_setFutile_13 0 rfl ?_
    refine V_get (ci := 5) C okX_0_0 uX5 rfl 0 (Nat.le_of_ble_eq_true rfl) rfl rfl f10 dX5_setFutile_14 ?_
    refine V_get (ci := 2) C (ok7 (by decide)) uX2 rfl 8 (Nat.le_of_ble_eq_true rfl) rfl rfl f135 dX5_setFutile_17 ?_
    refine V_topi (fun x2_3 hx2_3 => ?_)
    replace hJ := hJ x2_3 hx2_3
    refine V_istore_n (lv' := [(2, .int x2_3), (0, .ref (ad (0, 0, 0))), (1, .int x1)]) C dX5_setFutile_20 (by decide) rfl ?_
    refine V_aload_n C dX5_setFutile_21 1 rfl ?_
    refine V_get (ci := 5) C okX_0_0 uX5 rfl 0 (Nat.le_of_ble_eq_true rfl) rfl rfl f10 dX5_setFutile_22 ?_
    refine V_iload_n C dX5_setFutile_25 2 rfl ?_
    refine V_put (ci := 2) C (ok7 (by decide)) uX2 tyX2 tyX2_ok nmX2 rfl 8 (Nat.le_of_ble_eq_true rfl) rfl rfl f135 rfl (ty := .int) (by decide +kernel) rfl rfl (Nat.le_of_ble_eq_true rfl) dX5_setFutile_26 (fun τ4 hτ4 => ?_)
    replace hJ := hJ τ4 hτ4
    refine V_iload_n C dX5_setFutile_29 0 rfl ?_
    exact V_iret C hr hlocks dX5_setFutile_30 hJ
  · have hJ := hJf hc2; clear hJt hJf
    refine V_bipush (v := (-102)) C dX5_setFutile_10 cb_m102 ?_
    exact V_iret C hr hlocks dX5_setFutile_12 hJ
