/-! PART 37 (written by wip/p41/gen37.py): four methods over one state alone; the small constructors -/
theorem okS7 (j : Nat) : ((7, j, 0) : Oid) ∈ idsS j := by simp [idsS]
theorem okS8 (j : Nat) : ((8, j, 0) : Oid) ∈ idsS j := by simp [idsS]
theorem okS9 (j : Nat) : ((9, j, 0) : Oid) ∈ idsS j := by simp [idsS]
theorem okS10 (j : Nat) : ((10, j, 0) : Oid) ∈ idsS j := by simp [idsS]
theorem okS11 (j : Nat) : ((11, j, 0) : Oid) ∈ idsS j := by simp [idsS]
theorem okS12 (j : Nat) : ((12, j, 0) : Oid) ∈ idsS j := by simp [idsS]
theorem okS13 {j i : Nat} (hi : i < 10) : ((13, j, i) : Oid) ∈ idsS j := by simp [idsS, hi]
theorem okS14 {j i : Nat} (hi : i < 12) : ((14, j, i) : Oid) ∈ idsS j := by simp [idsS, hi]
set_option maxHeartbeats 4000000 in
set_option maxRecDepth 100000 in
theorem S_X0_begin (l : Launch) (D : va_G) (tc : Nat → ClassId) (ad : Oid → Nat) (A : Nat → Prop) (j0 : Nat) (i0 : Nat) (hj0 : j0 < 4) (hi0 : i0 < 10) (x1 : Int32) (x2 : Int32) (x3 : Int32) {σ : Mem} {Qr : Mem → Prop} (hJ : J_X0_begin j0 i0 x1 x2 x3 σ Qr) : Met l yX0_begin wsX0_begin ({ frames := 0, cells := 0, slots := 0, locals := 0 }) (va_Pc [.ref (ad (13, j0, i0)), .int x1, .int x2, .int x3] (WdI D vwCl (tysX tc) (idsS j0) ad (ceX tc ad) A σ)) (va_Qv (fun (u : Mem) => Qr u) (WdO D vwCl (idsS j0) ad (ceX tc ad) A) A) 0 0 A := by
  refine V_metv (cc := cX0_begin) (nL := 4) (ret := none) (own := RX0) rfl (plainFor_of_name (by decide)) rfl rfl (Nat.le_of_ble_eq_true rfl) ?_
  intro p e s m below meth c C hr hlocks
  refine V_sub (lv' := [(0, .ref (ad (13, j0, i0))), (1, .int x1), (2, .int x2), (3, .int x3)]) [0, 1, 2, 3] rfl ?_
  have f7 : Cond.fieldLink RX0 7 (TX0 0).1 (TX0 0).2.1 (TX0 0).2.2.1 ∈ wsX0_begin := List.mem_of_getElem? (i := 1) rfl
  have uX0 : ∀ w ∈ u_ws RX0 TX0 3, w ∈ wsX0_begin := by decide +kernel
  have f13 : Cond.fieldLink RX0 13 (TX0 1).1 (TX0 1).2.1 (TX0 1).2.2.1 ∈ wsX0_begin := List.mem_of_getElem? (i := 2) rfl
  have f16 : Cond.fieldLink RX0 16 (TX0 2).1 (TX0 2).2.1 (TX0 2).2.2.1 ∈ wsX0_begin := List.mem_of_getElem? (i := 3) rfl
  unfold J_X0_begin at hJ
  refine V_aload_n C dX0_begin_0 0 rfl ?_
  refine V_iload_n C dX0_begin_1 1 rfl ?_
  refine V_put (ci := 0) C (okS13 hi0) uX0 tyX0 tyX0_ok nmX0 rfl 0 (Nat.le_of_ble_eq_true rfl) rfl rfl f7 rfl (ty := .int) (by decide +kernel) rfl rfl (Nat.le_of_ble_eq_true rfl) dX0_begin_2 (fun τ1 hτ1 => ?_)
  replace hJ := hJ τ1 hτ1
  refine V_aload_n C dX0_begin_5 0 rfl ?_
  refine V_iload_n C dX0_begin_6 2 rfl ?_
  refine V_put (ci := 0) C (okS13 hi0) uX0 tyX0 tyX0_ok nmX0 rfl 1 (Nat.le_of_ble_eq_true rfl) rfl rfl f13 rfl (ty := .int) (by decide +kernel) rfl rfl (Nat.le_of_ble_eq_true rfl) dX0_begin_7 (fun τ2 hτ2 => ?_)
  replace hJ := hJ τ2 hτ2
  refine V_aload_n C dX0_begin_10 0 rfl ?_
  refine V_iload_n C dX0_begin_11 3 rfl ?_
  refine V_put (ci := 0) C (okS13 hi0) uX0 tyX0 tyX0_ok nmX0 rfl 2 (Nat.le_of_ble_eq_true rfl) rfl rfl f16 rfl (ty := .int) (by decide +kernel) rfl rfl (Nat.le_of_ble_eq_true rfl) dX0_begin_12 (fun τ3 hτ3 => ?_)
  replace hJ := hJ τ3 hτ3
  exact V_vret C hr hlocks dX0_begin_15 hJ
set_option maxHeartbeats 4000000 in
set_option maxRecDepth 100000 in
theorem S_X2_hasRoomForDitch (l : Launch) (D : va_G) (tc : Nat → ClassId) (ad : Oid → Nat) (A : Nat → Prop) (j0 : Nat) (hj0 : j0 < 4) {σ : Mem} {Qr : Int32 → Mem → Prop} (hJ : J_X2_hasRoomForDitch j0 σ Qr) : Met l yX2_hasRoomForDitch wsX2_hasRoomForDitch ({ frames := 0, cells := 0, slots := 0, locals := 0 }) (va_Pc [.ref (ad (7, j0, 0))] (WdI D vwCl (tysX tc) (idsS j0) ad (ceX tc ad) A σ)) (va_Qi (fun (r : Int32) (u : Mem) => Qr r u) (WdO D vwCl (idsS j0) ad (ceX tc ad) A) A) 0 0 A := by
  refine V_meti (cc := cX2_hasRoomForDitch) (nL := 1) (ret := (some .boolean)) (own := RX2) rfl (plainFor_of_name (by decide)) rfl rfl (Nat.le_of_ble_eq_true rfl) ?_
  intro p e s m below meth c C hr hlocks
  refine V_sub (lv' := [(0, .ref (ad (7, j0, 0)))]) [0] rfl ?_
  have f49 : Cond.fieldLink RX2 49 (TX2 5).1 (TX2 5).2.1 (TX2 5).2.2.1 ∈ wsX2_hasRoomForDitch := List.mem_of_getElem? (i := 1) rfl
  have uX2 : ∀ w ∈ u_ws RX2 TX2 10, w ∈ wsX2_hasRoomForDitch := by decide +kernel
  unfold J_X2_hasRoomForDitch at hJ
  refine V_aload_n C dX2_hasRoomForDitch_0 0 rfl ?_
  refine V_get (ci := 2) C (okS7 j0) uX2 rfl 5 (Nat.le_of_ble_eq_true rfl) rfl rfl f49 dX2_hasRoomForDitch_1 ?_
  refine V_bipush (v := 10) C dX2_hasRoomForDitch_4 cb_10 ?_
  obtain ⟨hJt, hJf⟩ := hJ
  refine V_icmp_ge C (tgt := 13) dX2_hasRoomForDitch_6 rfl (fun hc1 => ?_) (fun hc1 => ?_)
  · have hJ := hJt hc1; clear hJt hJf
    refine V_iconst (v := 0) C dX2_hasRoomForDitch_13 ci_0 ?_
    exact V_zret C hr hlocks (Or.inl rfl) dX2_hasRoomForDitch_14 hJ
  · have hJ := hJf hc1; clear hJt hJf
    refine V_iconst (v := 1) C dX2_hasRoomForDitch_9 ci_1 ?_
    refine V_goto C (tgt := 14) dX2_hasRoomForDitch_10 rfl ?_
    exact V_zret C hr hlocks (Or.inr rfl) dX2_hasRoomForDitch_14 hJ
set_option maxHeartbeats 4000000 in
set_option maxRecDepth 100000 in
theorem S_X2_putDitch (l : Launch) (D : va_G) (tc : Nat → ClassId) (ad : Oid → Nat) (A : Nat → Prop) (j0 : Nat) (hj0 : j0 < 4) (x1 : Int32) (x2 : Int32) (x3 : Int32) {σ : Mem} {Qr : Mem → Prop} (hJ : J_X2_putDitch j0 x1 x2 x3 σ Qr) : Met l yX2_putDitch wsX2_putDitch ({ frames := 1, cells := 0, slots := 0, locals := 23 }) (va_Pc [.ref (ad (7, j0, 0)), .int x1, .int x2, .int x3] (WdI D vwCl (tysX tc) (idsS j0) ad (ceX tc ad) A σ)) (va_Qv (fun (u : Mem) => Qr u) (WdO D vwCl (idsS j0) ad (ceX tc ad) A) A) 0 0 A := by
  refine V_metv (cc := cX2_putDitch) (nL := 4) (ret := none) (own := RX2) rfl (plainFor_of_name (by decide)) rfl rfl (Nat.le_of_ble_eq_true rfl) ?_
  intro p e s m below meth c C hr hlocks
  refine V_sub (lv' := [(0, .ref (ad (7, j0, 0))), (1, .int x1), (2, .int x2), (3, .int x3)]) [0, 1, 2, 3] rfl ?_
  have f11 : Cond.fieldLink RX2 11 (TX2 0).1 (TX2 0).2.1 (TX2 0).2.2.1 ∈ wsX2_putDitch := List.mem_of_getElem? (i := 1) rfl
  have uX2 : ∀ w ∈ u_ws RX2 TX2 10, w ∈ wsX2_putDitch := by decide +kernel
  have f49 : Cond.fieldLink RX2 49 (TX2 5).1 (TX2 5).2.1 (TX2 5).2.2.1 ∈ wsX2_putDitch := List.mem_of_getElem? (i := 2) rfl
  unfold J_X2_putDitch at hJ
  refine V_aload_n C dX2_putDitch_0 0 rfl ?_
  refine V_cVi (st := []) (ci := 2) C (okS7 j0) ⟨Nat.zero_le _, Nat.zero_le _⟩ (S_X2_hasRoomForDitch l D tc ad A j0 hj0 hJ) (cwV 0 C.1.2.2.2.2 gX2_putDitch_X2_hasRoomForDitch rfl rfl rfl (by decide +kernel) ⟨Nat.le_of_ble_eq_true rfl, Nat.le_of_ble_eq_true rfl⟩) rfl rfl rfl rfl (Nat.le_of_ble_eq_true rfl) dX2_putDitch_1 (fun r1 τ1 hJ => ?_)
  obtain ⟨hJt, hJf⟩ := hJ
  refine V_if_ne C (tgt := 8) dX2_putDitch_4 rfl (fun hc2 => ?_) (fun hc2 => ?_)
  · have hJ := hJt hc2; clear hJt hJf
    refine V_aload_n C dX2_putDitch_8 0 rfl ?_
    refine V_get (ci := 2) C (okS7 j0) uX2 rfl 0 (Nat.le_of_ble_eq_true rfl) rfl rfl f11 dX2_putDitch_9 ?_
    refine V_aload_n C dX2_putDitch_12 0 rfl ?_
    refine V_get (ci := 2) C (okS7 j0) uX2 rfl 5 (Nat.le_of_ble_eq_true rfl) rfl rfl f49 dX2_putDitch_13 ?_
    obtain ⟨hv3, hJ⟩ := hJ
    refine V_aald (o' := (13, j0, ((τ1 (7, j0, 0) 5).toNatClampNeg))) C (okS8 j0) 3 rfl rfl hv3 rfl dX2_putDitch_16 ?_
    refine V_iload_n C dX2_putDitch_17 1 rfl ?_
    refine V_iload_n C dX2_putDitch_18 2 rfl ?_
    refine V_iload_n C dX2_putDitch_19 3 rfl ?_
    refine V_cVv (st := []) (ci := 0) C (okS13 (vp_lt hv3)) ⟨Nat.zero_le _, Nat.zero_le _⟩ (S_X0_begin l D tc ad A j0 ((τ1 (7, j0, 0) 5).toNatClampNeg) hj0 (vp_lt hv3) x1 x2 x3 hJ) (cwV 3 C.1.2.2.2.2 gX2_putDitch_X0_begin rfl rfl rfl (by decide +kernel) ⟨Nat.le_of_ble_eq_true rfl, Nat.le_of_ble_eq_true rfl⟩) rfl rfl rfl rfl (Nat.le_of_ble_eq_true rfl) dX2_putDitch_20 (fun τ4 hJ => ?_)
    refine V_aload_n C dX2_putDitch_23 0 rfl ?_
    refine V_dup C dX2_putDitch_24 rfl ?_
    refine V_get (ci := 2) C (okS7 j0) uX2 rfl 5 (Nat.le_of_ble_eq_true rfl) rfl rfl f49 dX2_putDitch_25 ?_
    refine V_iconst (v := 1) C dX2_putDitch_28 ci_1 ?_
    refine V_iadd C dX2_putDitch_29 ?_
    refine V_put (ci := 2) C (okS7 j0) uX2 tyX2 tyX2_ok nmX2 rfl 5 (Nat.le_of_ble_eq_true rfl) rfl rfl f49 rfl (ty := .int) (by decide +kernel) rfl rfl (Nat.le_of_ble_eq_true rfl) dX2_putDitch_30 (fun τ5 hτ5 => ?_)
    replace hJ := hJ τ5 hτ5
    exact V_vret C hr hlocks dX2_putDitch_33 hJ
  · have hJ := hJf hc2; clear hJt hJf
    exact V_vret C hr hlocks dX2_putDitch_7 hJ
set_option maxHeartbeats 4000000 in
set_option maxRecDepth 100000 in
theorem S_X2_putSupply (l : Launch) (D : va_G) (tc : Nat → ClassId) (ad : Oid → Nat) (A : Nat → Prop) (j0 : Nat) (hj0 : j0 < 4) (x1 : Int32) (x2 : Int32) (x3 : Int32) {σ : Mem} {Qr : Mem → Prop} (hJ : J_X2_putSupply j0 x1 x2 x3 σ Qr) : Met l yX2_putSupply wsX2_putSupply ({ frames := 1, cells := 0, slots := 0, locals := 13 }) (va_Pc [.ref (ad (7, j0, 0)), .int x1, .int x2, .int x3] (WdI D vwCl (tysX tc) (idsS j0) ad (ceX tc ad) A σ)) (va_Qv (fun (u : Mem) => Qr u) (WdO D vwCl (idsS j0) ad (ceX tc ad) A) A) 0 0 A := by
  refine V_metv (cc := cX2_putSupply) (nL := 5) (ret := none) (own := RX2) rfl (plainFor_of_name (by decide)) rfl rfl (Nat.le_of_ble_eq_true rfl) ?_
  intro p e s m below meth c C hr hlocks
  refine V_sub (lv' := [(0, .ref (ad (7, j0, 0))), (1, .int x1), (2, .int x2), (3, .int x3)]) [0, 1, 2, 3] rfl ?_
  have f27 : Cond.fieldLink RX2 27 (TX2 3).1 (TX2 3).2.1 (TX2 3).2.2.1 ∈ wsX2_putSupply := List.mem_of_getElem? (i := 5) rfl
  have uX2 : ∀ w ∈ u_ws RX2 TX2 10, w ∈ wsX2_putSupply := by decide +kernel
  unfold J_X2_putSupply at hJ
  refine V_iload_n C dX2_putSupply_0 1 rfl ?_
  refine V_iconst (v := 0) C dX2_putSupply_1 ci_0 ?_
  refine V_mmax C ⟨Nat.zero_le _, Nat.zero_le _⟩ (List.mem_of_getElem? (i := 1) rfl) (List.mem_of_getElem? (i := 2) rfl) (List.mem_of_getElem? (i := 3) rfl) (List.mem_of_getElem? (i := 4) rfl) (Nat.le_of_ble_eq_true rfl) (Nat.le_of_ble_eq_true rfl) dX2_putSupply_2 ?_
  refine V_topi (fun x4_1 hx4_1 => ?_)
  replace hJ := hJ x4_1 hx4_1
  refine V_istore (lv' := [(4, .int x4_1), (0, .ref (ad (7, j0, 0))), (1, .int x1), (2, .int x2), (3, .int x3)]) C dX2_putSupply_5 (by decide) rfl ?_
  refine V_sub (lv' := [(0, .ref (ad (7, j0, 0))), (2, .int x2), (3, .int x3), (4, .int x4_1)]) [1, 3, 4, 0] rfl ?_
  obtain ⟨I7, μ7, hI7, hst7⟩ := hJ
  have L7 : ∀ (n : Nat) (x4_2 : Int32) (τ2 : Mem), μ7 x4_2 τ2 < n → I7 x4_2 τ2 → VV p l e (headSpec wsX2_putSupply ({ frames := 1, cells := 0, slots := 0, locals := 13 })).room s m ([.ref (ad (7, j0, 0)), .int x1, .int x2, .int x3] : List Value).toArray below meth c D vwCl (idsS j0) ad (ceX tc ad) A (MQ below (va_Qv (fun (u : Mem) => Qr u) (WdO D vwCl (idsS j0) ad (ceX tc ad) A) A) ([.ref (ad (7, j0, 0)), .int x1, .int x2, .int x3] : List Value).toArray s 0 0 A) 5 (0, 0) 7 [(0, .ref (ad (7, j0, 0))), (2, .int x2), (3, .int x3), (4, .int x4_2)] [] τ2 := by
    intro n
    induction n with
    | zero => intro x4_2 τ2 hμ _; exact absurd hμ (Nat.not_lt_zero _)
    | succ n ihn =>
      intro x4_2 τ2 hμ7 hJ
      have ih7 := ihn
      replace hJ := hst7 x4_2 τ2 hJ
      refine V_iload C dX2_putSupply_7 3 rfl ?_
      refine V_iload_n C dX2_putSupply_9 1 rfl ?_
      obtain ⟨hJt, hJf⟩ := hJ
      refine V_icmp_ge C (tgt := 34) dX2_putSupply_10 rfl (fun hc3 => ?_) (fun hc3 => ?_)
      · have hJ := hJt hc3; clear hJt hJf
        exact V_vret C hr hlocks dX2_putSupply_34 hJ
      · have hJ := hJf hc3; clear hJt hJf
        refine V_iload C dX2_putSupply_13 3 rfl ?_
        refine V_bipush (v := 24) C dX2_putSupply_15 cb_24 ?_
        obtain ⟨hJt, hJf⟩ := hJ
        refine V_icmp_ge C (tgt := 34) dX2_putSupply_17 rfl (fun hc4 => ?_) (fun hc4 => ?_)
        · have hJ := hJt hc4; clear hJt hJf
          exact V_vret C hr hlocks dX2_putSupply_34 hJ
        · have hJ := hJf hc4; clear hJt hJf
          refine V_aload_n C dX2_putSupply_20 0 rfl ?_
          refine V_get (ci := 2) C (okS7 j0) uX2 rfl 3 (Nat.le_of_ble_eq_true rfl) rfl rfl f27 dX2_putSupply_21 ?_
          refine V_iload C dX2_putSupply_24 3 rfl ?_
          refine V_iload_n C dX2_putSupply_26 2 rfl ?_
          obtain ⟨hv5, hJ⟩ := hJ
          refine V_iast C (okS11 j0) 0 rfl (fun _ => rfl) rfl hv5 dX2_putSupply_27 (fun τ6 hτ6 => ?_)
          replace hJ := hJ τ6 hτ6
          obtain ⟨x4_7, hx4_7⟩ : ∃ y : Int32, y = x4_2 + 1 := ⟨_, rfl⟩
          replace hJ := hJ x4_7 hx4_7
          refine V_iinc (v := x4_7) (lv' := [(4, .int x4_7), (0, .ref (ad (7, j0, 0))), (2, .int x2), (3, .int x3)]) C dX2_putSupply_28 3 rfl (by rw [hx4_7]; exact congrArg _ ci_1) (by decide) rfl ?_
          refine V_goto C (tgt := 7) dX2_putSupply_31 rfl ?_
          refine V_sub (lv' := [(0, .ref (ad (7, j0, 0))), (2, .int x2), (3, .int x3), (4, .int x4_7)]) [1, 2, 3, 0] rfl ?_
          exact ih7 x4_7 τ6 (Nat.lt_of_lt_of_le hJ.2 (Nat.le_of_lt_succ hμ7)) hJ.1
  exact L7 _ x4_1 σ (Nat.lt_succ_self _) hI7
set_option maxHeartbeats 4000000 in
set_option maxRecDepth 100000 in
theorem K_X0 (l : Launch) (D : va_G) (tc : Nat → ClassId) (a sz : Nat) (fs : List Value) : Met l yX0_init wsX0_init ({ frames := 1, cells := 0, slots := 0, locals := 12 }) (va_Pc [.ref a] (IniP D vwCl (tysX tc) a 0 fs sz)) (va_Qv (fun _ : Unit => True) (IniB D vwCl (fun _ => [(a, .inr (0, fs))]) (AF a sz)) (AF a sz)) 0 0 (AF a sz) := by
  refine G_met (cc := cX0_init) (own := RX0) (maxL := 1) rfl rfl (by decide) rfl (Nat.le_of_ble_eq_true rfl) ?_
  intro p e s m below meth c C hr hlocks
  refine G_aload_n C dX0_init_0 0 rfl ?_
  refine G_obj C (List.mem_of_getElem? (i := 1) rfl) (List.mem_of_getElem? (i := 2) rfl) (List.mem_of_getElem? (i := 3) rfl) (Nat.le_of_ble_eq_true rfl) (Nat.le_of_ble_eq_true rfl) dX0_init_1 ?_
  exact G_vret C hr hlocks dX0_init_4 () trivial rfl
set_option maxHeartbeats 4000000 in
set_option maxRecDepth 100000 in
theorem K_X4 (l : Launch) (D : va_G) (tc : Nat → ClassId) (a sz : Nat) (fs : List Value) : Met l yX4_init wsX4_init ({ frames := 1, cells := 0, slots := 0, locals := 12 }) (va_Pc [.ref a] (IniP D vwCl (tysX tc) a 4 fs sz)) (va_Qv (fun _ : Unit => True) (IniB D vwCl (fun _ => [(a, .inr (4, fs))]) (AF a sz)) (AF a sz)) 0 0 (AF a sz) := by
  refine G_met (cc := cX4_init) (own := RX4) (maxL := 1) rfl rfl (by decide) rfl (Nat.le_of_ble_eq_true rfl) ?_
  intro p e s m below meth c C hr hlocks
  refine G_aload_n C dX4_init_0 0 rfl ?_
  refine G_obj C (List.mem_of_getElem? (i := 1) rfl) (List.mem_of_getElem? (i := 2) rfl) (List.mem_of_getElem? (i := 3) rfl) (Nat.le_of_ble_eq_true rfl) (Nat.le_of_ble_eq_true rfl) dX4_init_1 ?_
  exact G_vret C hr hlocks dX4_init_4 () trivial rfl
def ids1 : List Oid := [(3, 0, 0), (4, 0, 0), (4, 1, 0), (15, 0, 0), (15, 1, 0), (15, 2, 0)]
def zmem : Mem := fun _ _ => 0
set_option maxHeartbeats 4000000 in
set_option maxRecDepth 100000 in
theorem K_X1 (l : Launch) (D : va_G) (tc : Nat → ClassId) (a sz : Nat) : Met l yX1_init wsX1_init ({ frames := 1, cells := 5, slots := 54, locals := 13 }) (va_Pc [.ref a] (IniP D vwCl (tysX tc) a 1 [.null, .null, .null, .null, .null, .int 0] sz)) (va_Qv (fun ad : Oid → Nat => ad (3, 0, 0) = a) (IniB D vwCl (fun ad => wl ids1 ad (ceX tc ad) zmem) (AF a sz)) (AF a sz)) 5 54 (AF a sz) := by
  refine G_met (cc := cX1_init) (own := RX1) (maxL := 1) rfl rfl (by decide) rfl (Nat.le_of_ble_eq_true rfl) ?_
  intro p e s m below meth c C hr hlocks
  have uX1 : ∀ w ∈ u_ws RX1 TX1 6, w ∈ wsX1_init := by decide +kernel
  refine G_aload_n C dX1_init_0 0 rfl ?_
  refine G_obj C (List.mem_of_getElem? (i := 1) rfl) (List.mem_of_getElem? (i := 2) rfl) (List.mem_of_getElem? (i := 3) rfl) (Nat.le_of_ble_eq_true rfl) (Nat.le_of_ble_eq_true rfl) dX1_init_1 ?_
  refine G_aload_n C dX1_init_4 0 rfl ?_
  refine G_bipush (v := 12) C dX1_init_5 cb_12 ?_
  refine G_newi C 0 12 rfl (List.mem_of_getElem? (i := 4) rfl) (by decide) (by decide) (by decide) (Nat.le_of_ble_eq_true rfl) (Nat.le_of_ble_eq_true rfl) dX1_init_7 (fun q0 => ?_)
  refine G_ws (ws' := [(a, .inr (1, [.null, .null, .null, .null, .null, .int 0])), (q0, .inl (tc 0, 12, .inl (fun _ => 0)))]) rfl ?_
  refine G_putF C 0 (ws' := [(a, .inr (1, [.ref q0, .null, .null, .null, .null, .int 0])), (q0, .inl (tc 0, 12, .inl (fun _ => 0)))]) rfl uX1 tyX1 tyX1_ok nmX1 (ci := 1) rfl 0 (by decide) (List.mem_of_getElem? (i := 5) rfl) rfl rfl (ty := .array .int) (by decide +kernel) rfl rfl (Nat.le_of_ble_eq_true rfl) rfl dX1_init_9 ?_
  refine G_aload_n C dX1_init_12 0 rfl ?_
  refine G_bipush (v := 12) C dX1_init_13 cb_12 ?_
  refine G_newi C 0 12 rfl (List.mem_of_getElem? (i := 4) rfl) (by decide) (by decide) (by decide) (Nat.le_of_ble_eq_true rfl) (Nat.le_of_ble_eq_true rfl) dX1_init_15 (fun q1 => ?_)
  refine G_ws (ws' := [(a, .inr (1, [.ref q0, .null, .null, .null, .null, .int 0])), (q0, .inl (tc 0, 12, .inl (fun _ => 0))), (q1, .inl (tc 0, 12, .inl (fun _ => 0)))]) rfl ?_
  refine G_putF C 0 (ws' := [(a, .inr (1, [.ref q0, .ref q1, .null, .null, .null, .int 0])), (q0, .inl (tc 0, 12, .inl (fun _ => 0))), (q1, .inl (tc 0, 12, .inl (fun _ => 0)))]) rfl uX1 tyX1 tyX1_ok nmX1 (ci := 1) rfl 1 (by decide) (List.mem_of_getElem? (i := 6) rfl) rfl rfl (ty := .array .int) (by decide +kernel) rfl rfl (Nat.le_of_ble_eq_true rfl) rfl dX1_init_17 ?_
  refine G_aload_n C dX1_init_20 0 rfl ?_
  refine G_bipush (v := 10) C dX1_init_21 cb_10 ?_
  refine G_newi C 0 10 rfl (List.mem_of_getElem? (i := 4) rfl) (by decide) (by decide) (by decide) (Nat.le_of_ble_eq_true rfl) (Nat.le_of_ble_eq_true rfl) dX1_init_23 (fun q2 => ?_)
  refine G_ws (ws' := [(a, .inr (1, [.ref q0, .ref q1, .null, .null, .null, .int 0])), (q0, .inl (tc 0, 12, .inl (fun _ => 0))), (q1, .inl (tc 0, 12, .inl (fun _ => 0))), (q2, .inl (tc 0, 10, .inl (fun _ => 0)))]) rfl ?_
  refine G_putF C 0 (ws' := [(a, .inr (1, [.ref q0, .ref q1, .ref q2, .null, .null, .int 0])), (q0, .inl (tc 0, 12, .inl (fun _ => 0))), (q1, .inl (tc 0, 12, .inl (fun _ => 0))), (q2, .inl (tc 0, 10, .inl (fun _ => 0)))]) rfl uX1 tyX1 tyX1_ok nmX1 (ci := 1) rfl 2 (by decide) (List.mem_of_getElem? (i := 7) rfl) rfl rfl (ty := .array .int) (by decide +kernel) rfl rfl (Nat.le_of_ble_eq_true rfl) rfl dX1_init_25 ?_
  refine G_aload_n C dX1_init_28 0 rfl ?_
  refine G_bipush (v := 10) C dX1_init_29 cb_10 ?_
  refine G_newi C 0 10 rfl (List.mem_of_getElem? (i := 4) rfl) (by decide) (by decide) (by decide) (Nat.le_of_ble_eq_true rfl) (Nat.le_of_ble_eq_true rfl) dX1_init_31 (fun q3 => ?_)
  refine G_ws (ws' := [(a, .inr (1, [.ref q0, .ref q1, .ref q2, .null, .null, .int 0])), (q0, .inl (tc 0, 12, .inl (fun _ => 0))), (q1, .inl (tc 0, 12, .inl (fun _ => 0))), (q2, .inl (tc 0, 10, .inl (fun _ => 0))), (q3, .inl (tc 0, 10, .inl (fun _ => 0)))]) rfl ?_
  refine G_putF C 0 (ws' := [(a, .inr (1, [.ref q0, .ref q1, .ref q2, .ref q3, .null, .int 0])), (q0, .inl (tc 0, 12, .inl (fun _ => 0))), (q1, .inl (tc 0, 12, .inl (fun _ => 0))), (q2, .inl (tc 0, 10, .inl (fun _ => 0))), (q3, .inl (tc 0, 10, .inl (fun _ => 0)))]) rfl uX1 tyX1 tyX1_ok nmX1 (ci := 1) rfl 3 (by decide) (List.mem_of_getElem? (i := 8) rfl) rfl rfl (ty := .array .int) (by decide +kernel) rfl rfl (Nat.le_of_ble_eq_true rfl) rfl dX1_init_33 ?_
  refine G_aload_n C dX1_init_36 0 rfl ?_
  refine G_bipush (v := 10) C dX1_init_37 cb_10 ?_
  refine G_newi C 0 10 rfl (List.mem_of_getElem? (i := 4) rfl) (by decide) (by decide) (by decide) (Nat.le_of_ble_eq_true rfl) (Nat.le_of_ble_eq_true rfl) dX1_init_39 (fun q4 => ?_)
  refine G_ws (ws' := [(a, .inr (1, [.ref q0, .ref q1, .ref q2, .ref q3, .null, .int 0])), (q0, .inl (tc 0, 12, .inl (fun _ => 0))), (q1, .inl (tc 0, 12, .inl (fun _ => 0))), (q2, .inl (tc 0, 10, .inl (fun _ => 0))), (q3, .inl (tc 0, 10, .inl (fun _ => 0))), (q4, .inl (tc 0, 10, .inl (fun _ => 0)))]) rfl ?_
  refine G_putF C 0 (ws' := [(a, .inr (1, [.ref q0, .ref q1, .ref q2, .ref q3, .ref q4, .int 0])), (q0, .inl (tc 0, 12, .inl (fun _ => 0))), (q1, .inl (tc 0, 12, .inl (fun _ => 0))), (q2, .inl (tc 0, 10, .inl (fun _ => 0))), (q3, .inl (tc 0, 10, .inl (fun _ => 0))), (q4, .inl (tc 0, 10, .inl (fun _ => 0)))]) rfl uX1 tyX1 tyX1_ok nmX1 (ci := 1) rfl 4 (by decide) (List.mem_of_getElem? (i := 9) rfl) rfl rfl (ty := .array .int) (by decide +kernel) rfl rfl (Nat.le_of_ble_eq_true rfl) rfl dX1_init_41 ?_
  exact G_vret C hr hlocks dX1_init_44 (fun o : Oid => if o.1 = 4 then (if o.2.1 = 0 then q0 else q1) else if o.1 = 15 then (if o.2.1 = 0 then q2 else if o.2.1 = 1 then q3 else q4) else a) rfl rfl
def ids3 : List Oid := [(5, 0, 0), (6, 0, 0)]
def tmem : Mem := fun o k => if o.1 = 5 ∧ k = 1 then -105 else 0
set_option maxHeartbeats 4000000 in
set_option maxRecDepth 100000 in
theorem K_X3 (l : Launch) (D : va_G) (tc : Nat → ClassId) (a sz : Nat) : Met l yX3_init wsX3_init ({ frames := 1, cells := 1, slots := 100, locals := 13 }) (va_Pc [.ref a] (IniP D vwCl (tysX tc) a 3 [.int 0, .int 0, .int 0, .null, .int 0] sz)) (va_Qv (fun ad : Oid → Nat => ad (5, 0, 0) = a) (IniB D vwCl (fun ad => wl ids3 ad (ceX tc ad) tmem) (AF a sz)) (AF a sz)) 1 100 (AF a sz) := by
  refine G_met (cc := cX3_init) (own := RX3) (maxL := 1) rfl rfl (by decide) rfl (Nat.le_of_ble_eq_true rfl) ?_
  intro p e s m below meth c C hr hlocks
  have uX3 : ∀ w ∈ u_ws RX3 TX3 5, w ∈ wsX3_init := by decide +kernel
  refine G_aload_n C dX3_init_0 0 rfl ?_
  refine G_obj C (List.mem_of_getElem? (i := 1) rfl) (List.mem_of_getElem? (i := 2) rfl) (List.mem_of_getElem? (i := 3) rfl) (Nat.le_of_ble_eq_true rfl) (Nat.le_of_ble_eq_true rfl) dX3_init_1 ?_
  refine G_aload_n C dX3_init_4 0 rfl ?_
  refine G_bipush (v := -105) C dX3_init_5 cb_m105 ?_
  refine G_put C 0 (ws' := [(a, .inr (3, [.int 0, .int (-105), .int 0, .null, .int 0]))]) rfl uX3 tyX3 tyX3_ok nmX3 (ci := 3) rfl 1 (by decide) (List.mem_of_getElem? (i := 4) rfl) rfl (ty := .int) (by decide +kernel) rfl rfl (Nat.le_of_ble_eq_true rfl) rfl dX3_init_7 ?_
  refine G_aload_n C dX3_init_10 0 rfl ?_
  refine G_bipush (v := 100) C dX3_init_11 cb_100 ?_
  refine G_newc C 2 100 rfl (List.mem_of_getElem? (i := 5) rfl) (by decide) (by decide) (by decide) (Nat.le_of_ble_eq_true rfl) (Nat.le_of_ble_eq_true rfl) dX3_init_13 (fun q0 => ?_)
  refine G_ws (ws' := [(a, .inr (3, [.int 0, .int (-105), .int 0, .null, .int 0])), (q0, .inl (tc 2, 100, .inl (fun _ => 0)))]) rfl ?_
  refine G_putF C 0 (ws' := [(a, .inr (3, [.int 0, .int (-105), .int 0, .ref q0, .int 0])), (q0, .inl (tc 2, 100, .inl (fun _ => 0)))]) rfl uX3 tyX3 tyX3_ok nmX3 (ci := 3) rfl 3 (by decide) (List.mem_of_getElem? (i := 6) rfl) rfl rfl (ty := .array .char) (by decide +kernel) rfl rfl (Nat.le_of_ble_eq_true rfl) rfl dX3_init_15 ?_
  refine G_vret C hr hlocks dX3_init_18 (fun o : Oid => if o.1 = 6 then q0 else a) rfl ?_
  have e6 : tmem (6, 0, 0) = fun _ => 0 := by funext k; exact if_neg (fun h => absurd h.1 (by decide))
  show _ = ([(a, Sum.inr (3, [.int (tmem (5, 0, 0) 0), .int (tmem (5, 0, 0) 1), .int (tmem (5, 0, 0) 2), .ref q0, .int (tmem (5, 0, 0) 4)])), (q0, Sum.inl (tc 2, 100, .inl (tmem (6, 0, 0))))] : va_W)
  rw [e6]
  rfl
