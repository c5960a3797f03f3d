set_option maxHeartbeats 4000000 in
set_option maxRecDepth 100000 in
theorem M_L_cell (l : Launch) (D : va_G) (tc : Nat → ClassId) (ad : Oid → Nat) (A : Nat → Prop) (L : Nat) (xs : Nat → Int32) (b : Nat) (x1 : Int32) {σ : Mem} {Qr : Int32 → Mem → Prop} (hJ : J_L_cell L xs x1 σ Qr) : Met l yL_cell wsL_cell ({ frames := 0, cells := 0, slots := 0, locals := 0 }) (va_Pc [.ref b, .int x1] (WdS b L xs D vwCl (tysX tc) idsX ad (ceX tc ad) A σ)) (va_Qi (fun (r : Int32) (u : Mem) => Qr r u) (WdO D vwCl idsX ad (ceX tc ad) A) A) 0 0 A := by
  refine V_metiS (cc := cL_cell) (nL := 2) (ret := (some .int)) (own := RL) rfl (plainFor_of_name (by decide)) rfl rfl (Nat.le_of_ble_eq_true rfl) ?_
  intro p e s m below meth c C hX hbl hbA hr hlocks
  refine V_sub (lv' := [(0, .ref b), (1, .int x1)]) [0, 1] rfl ?_
  unfold J_L_cell at hJ
  refine V_iload_n C dL_cell_0 1 rfl ?_
  refine V_aload_n C dL_cell_1 0 rfl ?_
  refine V_slen C hX hbl hbA dL_cell_2 ?_
  obtain ⟨hJt, hJf⟩ := hJ
  refine V_icmp_ge C (tgt := 12) dL_cell_3 rfl (fun hc1 => ?_) (fun hc1 => ?_)
  · have hJ := hJt hc1; clear hJt hJf
    refine V_ldc (v := 15512099) C (List.mem_of_getElem? (i := 1) rfl) dL_cell_12 ?_
    refine V_iload_n C dL_cell_14 1 rfl ?_
    refine V_imul C dL_cell_15 ?_
    refine V_sipush (v := 251) C dL_cell_16 cs_251 ?_
    refine V_iadd C dL_cell_19 ?_
    refine V_ldc (v := 2147483647) C (List.mem_of_getElem? (i := 2) rfl) dL_cell_20 ?_
    refine V_iand C dL_cell_22 ?_
    exact V_iret C hr hlocks dL_cell_23 hJ
  · have hJ := hJf hc1; clear hJt hJf
    refine V_aload_n C dL_cell_6 0 rfl ?_
    refine V_iload_n C dL_cell_7 1 rfl ?_
    obtain ⟨hv2, hJ⟩ := hJ
    refine V_sld C hX hbl hbA hv2 dL_cell_8 ?_
    refine V_goto C (tgt := 20) dL_cell_9 rfl ?_
    refine V_ldc (v := 2147483647) C (List.mem_of_getElem? (i := 2) rfl) dL_cell_20 ?_
    refine V_iand C dL_cell_22 ?_
    exact V_iret C hr hlocks dL_cell_23 hJ
set_option maxHeartbeats 4000000 in
set_option maxRecDepth 100000 in
theorem M_L_builds (l : Launch) (D : va_G) (tc : Nat → ClassId) (ad : Oid → Nat) (A : Nat → Prop) (L : Nat) (xs : Nat → Int32) (b : Nat) (x2 : Int32) {σ : Mem} {Qr : Int32 → Mem → Prop} (hJ : J_L_builds L xs x2 σ Qr) : Met l yL_builds wsL_builds ({ frames := 3, cells := 0, slots := 0, locals := 70 }) (va_Pc [.ref (ad (0, 0, 0)), .ref b, .int x2, .ref (ad (16, 0, 0)), .ref (ad (17, 0, 0)), .ref (ad (18, 0, 0))] (WdS b L xs D vwCl (tysX tc) idsX ad (ceX tc ad) A σ)) (va_Qi (fun (r : Int32) (u : Mem) => Qr r u) (WdO D vwCl idsX ad (ceX tc ad) A) A) 0 0 A := by
  refine V_metiS (cc := cL_builds) (nL := 10) (ret := (some .boolean)) (own := RL) rfl (plainFor_of_name (by decide)) rfl rfl (Nat.le_of_ble_eq_true rfl) ?_
  intro p e s m below meth c C hX hbl hbA hr hlocks
  refine V_sub (lv' := [(0, .ref (ad (0, 0, 0))), (1, .ref b), (2, .int x2), (3, .ref (ad (16, 0, 0))), (4, .ref (ad (17, 0, 0))), (5, .ref (ad (18, 0, 0)))]) [0, 1, 2, 3, 4, 5] rfl ?_
  have B476 : ∀ (b7 : Int32) (τ : Mem), J_L_builds_b476 L xs x2  b7 τ Qr → VV p l e (headSpec wsL_builds ({ frames := 3, cells := 0, slots := 0, locals := 70 })).room s m ([.ref (ad (0, 0, 0)), .ref b, .int x2, .ref (ad (16, 0, 0)), .ref (ad (17, 0, 0)), .ref (ad (18, 0, 0))] : List Value).toArray below meth c D vwCl idsX ad (ceX tc ad) A (MQ below (va_Qi (fun (r : Int32) (u : Mem) => Qr r u) (WdO D vwCl idsX ad (ceX tc ad) A) A) ([.ref (ad (0, 0, 0)), .ref b, .int x2, .ref (ad (16, 0, 0)), .ref (ad (17, 0, 0)), .ref (ad (18, 0, 0))] : List Value).toArray s 0 0 A) 10 (0, 0) 476 [(0, .ref (ad (0, 0, 0))), (5, .ref (ad (18, 0, 0))), (7, .int b7)] [] τ := by
    intro b7 τ hJ
    unfold J_L_builds_b476 at hJ
    refine V_iload C dL_builds_476 2 rfl ?_
    obtain ⟨hJt, hJf⟩ := hJ
    refine V_if_eq C (tgt := 507) dL_builds_478 rfl (fun hc15 => ?_) (fun hc15 => ?_)
    · have hJ := hJt hc15; clear hJt hJf
      refine V_iconst (v := 0) C dL_builds_507 ci_0 ?_
      exact V_zret C hr hlocks (Or.inl rfl) dL_builds_508 hJ
    · have hJ := hJf hc15; clear hJt hJf
      refine V_aload_n C dL_builds_481 0 rfl ?_
      refine V_cVi (st := []) (ci := 5) C okX_0_0 ⟨Nat.zero_le _, Nat.zero_le _⟩ (M_X5_ditches l D tc ad A  hJ) (cwV 0 C.1.2.2.2.2 gL_builds_X5_ditches rfl rfl rfl (by decide +kernel) ⟨Nat.le_of_ble_eq_true rfl, Nat.le_of_ble_eq_true rfl⟩) rfl rfl rfl rfl (Nat.le_of_ble_eq_true rfl) dL_builds_482 (fun r16 τ16 hJ => ?_)
      refine V_aload C dL_builds_485 1 rfl ?_
      refine V_iconst (v := 0) C dL_builds_487 ci_0 ?_
      refine V_iald C okX_18_0 0 rfl rfl ix_0 vpc_0_4 dL_builds_488 ?_
      obtain ⟨hJt, hJf⟩ := hJ
      refine V_icmp_ne C (tgt := 507) dL_builds_489 rfl (fun hc17 => ?_) (fun hc17 => ?_)
      · have hJ := hJt hc17; clear hJt hJf
        refine V_iconst (v := 0) C dL_builds_507 ci_0 ?_
        exact V_zret C hr hlocks (Or.inl rfl) dL_builds_508 hJ
      · have hJ := hJf hc17; clear hJt hJf
        refine V_aload_n C dL_builds_492 0 rfl ?_
        refine V_cVi (st := []) (ci := 5) C okX_0_0 ⟨Nat.zero_le _, Nat.zero_le _⟩ (M_X5_users l D tc ad A  hJ) (cwV 0 C.1.2.2.2.2 gL_builds_X5_users rfl rfl rfl (by decide +kernel) ⟨Nat.le_of_ble_eq_true rfl, Nat.le_of_ble_eq_true rfl⟩) rfl rfl rfl rfl (Nat.le_of_ble_eq_true rfl) dL_builds_493 (fun r18 τ18 hJ => ?_)
        refine V_aload C dL_builds_496 1 rfl ?_
        refine V_iconst (v := 1) C dL_builds_498 ci_1 ?_
        refine V_iald C okX_18_0 0 rfl rfl ix_1 vpc_1_4 dL_builds_499 ?_
        obtain ⟨hJt, hJf⟩ := hJ
        refine V_icmp_ne C (tgt := 507) dL_builds_500 rfl (fun hc19 => ?_) (fun hc19 => ?_)
        · have hJ := hJt hc19; clear hJt hJf
          refine V_iconst (v := 0) C dL_builds_507 ci_0 ?_
          exact V_zret C hr hlocks (Or.inl rfl) dL_builds_508 hJ
        · have hJ := hJf hc19; clear hJt hJf
          refine V_iconst (v := 1) C dL_builds_503 ci_1 ?_
          refine V_goto C (tgt := 508) dL_builds_504 rfl ?_
          exact V_zret C hr hlocks (Or.inr rfl) dL_builds_508 hJ
  have B261 : ∀ (b2 : Int32) (b7 : Int32) (τ : Mem), J_L_builds_b261 L xs x2  b2 b7 τ Qr → VV p l e (headSpec wsL_builds ({ frames := 3, cells := 0, slots := 0, locals := 70 })).room s m ([.ref (ad (0, 0, 0)), .ref b, .int x2, .ref (ad (16, 0, 0)), .ref (ad (17, 0, 0)), .ref (ad (18, 0, 0))] : List Value).toArray below meth c D vwCl idsX ad (ceX tc ad) A (MQ below (va_Qi (fun (r : Int32) (u : Mem) => Qr r u) (WdO D vwCl idsX ad (ceX tc ad) A) A) ([.ref (ad (0, 0, 0)), .ref b, .int x2, .ref (ad (16, 0, 0)), .ref (ad (17, 0, 0)), .ref (ad (18, 0, 0))] : List Value).toArray s 0 0 A) 10 (0, 0) 261 [(0, .ref (ad (0, 0, 0))), (1, .ref b), (2, .int b2), (4, .ref (ad (17, 0, 0))), (5, .ref (ad (18, 0, 0))), (7, .int b7)] [] τ := by
    intro b2 b7 τ hJ
    unfold J_L_builds_b261 at hJ
    refine V_iconst (v := 0) C dL_builds_261 ci_0 ?_
    refine V_istore (lv' := [(8, .int 0), (0, .ref (ad (0, 0, 0))), (1, .ref b), (2, .int b2), (4, .ref (ad (17, 0, 0))), (5, .ref (ad (18, 0, 0))), (7, .int b7)]) C dL_builds_262 (by decide) rfl ?_
    refine V_sub (lv' := [(0, .ref (ad (0, 0, 0))), (1, .ref b), (2, .int b2), (4, .ref (ad (17, 0, 0))), (5, .ref (ad (18, 0, 0))), (7, .int b7), (8, .int 0)]) [1, 2, 3, 4, 5, 6, 0] rfl ?_
    obtain ⟨I264, μ264, hI264, hst264⟩ := hJ
    have L264 : ∀ (n : Nat) (x7_13 : Int32) (x8_13 : Int32) (τ13 : Mem), μ264 x7_13 x8_13 τ13 < n → I264 x7_13 x8_13 τ13 → VV p l e (headSpec wsL_builds ({ frames := 3, cells := 0, slots := 0, locals := 70 })).room s m ([.ref (ad (0, 0, 0)), .ref b, .int x2, .ref (ad (16, 0, 0)), .ref (ad (17, 0, 0)), .ref (ad (18, 0, 0))] : List Value).toArray below meth c D vwCl idsX ad (ceX tc ad) A (MQ below (va_Qi (fun (r : Int32) (u : Mem) => Qr r u) (WdO D vwCl idsX ad (ceX tc ad) A) A) ([.ref (ad (0, 0, 0)), .ref b, .int x2, .ref (ad (16, 0, 0)), .ref (ad (17, 0, 0)), .ref (ad (18, 0, 0))] : List Value).toArray s 0 0 A) 10 (0, 0) 264 [(0, .ref (ad (0, 0, 0))), (1, .ref b), (2, .int b2), (4, .ref (ad (17, 0, 0))), (5, .ref (ad (18, 0, 0))), (7, .int x7_13), (8, .int x8_13)] [] τ13 := by
      intro n
      induction n with
      | zero => intro x7_13 x8_13 τ13 hμ _; exact absurd hμ (Nat.not_lt_zero _)
      | succ n ihn =>
        intro x7_13 x8_13 τ13 hμ264 hJ
        have ih264 := ihn
        replace hJ := hst264 x7_13 x8_13 τ13 hJ
        have B388 : ∀ (b8 : Int32) (t0 : Int32) (t1 : Int32) (τ : Mem), J_L_builds_b388 L xs x2 b2 (fun z0 z1 z2 => I264 z0 z1 z2 ∧ μ264 z0 z1 z2 < μ264 x7_13 x8_13 τ13) b8 t0 t1 τ Qr → VV p l e (headSpec wsL_builds ({ frames := 3, cells := 0, slots := 0, locals := 70 })).room s m ([.ref (ad (0, 0, 0)), .ref b, .int x2, .ref (ad (16, 0, 0)), .ref (ad (17, 0, 0)), .ref (ad (18, 0, 0))] : List Value).toArray below meth c D vwCl idsX ad (ceX tc ad) A (MQ below (va_Qi (fun (r : Int32) (u : Mem) => Qr r u) (WdO D vwCl idsX ad (ceX tc ad) A) A) ([.ref (ad (0, 0, 0)), .ref b, .int x2, .ref (ad (16, 0, 0)), .ref (ad (17, 0, 0)), .ref (ad (18, 0, 0))] : List Value).toArray s 0 0 A) 10 (0, 0) 388 [(0, .ref (ad (0, 0, 0))), (1, .ref b), (2, .int b2), (4, .ref (ad (17, 0, 0))), (5, .ref (ad (18, 0, 0))), (8, .int b8)] [.int t0, .int t1, .ref (ad (17, 0, 0))] τ := by
          intro b8 t0 t1 τ hJ
          unfold J_L_builds_b388 at hJ
          obtain ⟨hv32, hJ⟩ := hJ
          refine V_iast C okX_17_0 0 rfl (fun _ => rfl) rfl hv32 dL_builds_388 (fun τ33 hτ33 => ?_)
          replace hJ := hJ τ33 hτ33
          refine V_aload_n C dL_builds_389 0 rfl ?_
          refine V_aload C dL_builds_390 3 rfl ?_
          refine V_iconst (v := 5) C dL_builds_392 ci_5 ?_
          refine V_iload C dL_builds_393 5 rfl ?_
          refine V_imul C dL_builds_395 ?_
          obtain ⟨hv34, hJ⟩ := hJ
          refine V_iald C okX_17_0 0 rfl rfl rfl hv34 dL_builds_396 ?_
          refine V_aload C dL_builds_397 3 rfl ?_
          refine V_iconst (v := 5) C dL_builds_399 ci_5 ?_
          refine V_iload C dL_builds_400 5 rfl ?_
          refine V_imul C dL_builds_402 ?_
          refine V_iconst (v := 1) C dL_builds_403 ci_1 ?_
          refine V_iadd C dL_builds_404 ?_
          obtain ⟨hv35, hJ⟩ := hJ
          refine V_iald C okX_17_0 0 rfl rfl rfl hv35 dL_builds_405 ?_
          refine V_aload C dL_builds_406 3 rfl ?_
          refine V_iconst (v := 5) C dL_builds_408 ci_5 ?_
          refine V_iload C dL_builds_409 5 rfl ?_
          refine V_imul C dL_builds_411 ?_
          refine V_iconst (v := 2) C dL_builds_412 ci_2 ?_
          refine V_iadd C dL_builds_413 ?_
          obtain ⟨hv36, hJ⟩ := hJ
          refine V_iald C okX_17_0 0 rfl rfl rfl hv36 dL_builds_414 ?_
          refine V_cVi (st := []) (ci := 5) C okX_0_0 ⟨Nat.zero_le _, Nat.zero_le _⟩ (M_X5_addUser l D tc ad A (τ33 (17, 0, 0) ((5 * b8).toNatClampNeg)) (τ33 (17, 0, 0) (((5 * b8) + 1).toNatClampNeg)) (τ33 (17, 0, 0) (((5 * b8) + 2).toNatClampNeg)) hJ) (cwV 3 C.1.2.2.2.2 gL_builds_X5_addUser rfl rfl rfl (by decide +kernel) ⟨Nat.le_of_ble_eq_true rfl, Nat.le_of_ble_eq_true rfl⟩) rfl rfl rfl rfl (Nat.le_of_ble_eq_true rfl) dL_builds_415 (fun r37 τ37 hJ => ?_)
          refine V_iload C dL_builds_418 5 rfl ?_
          obtain ⟨hJt, hJf⟩ := hJ
          refine V_icmp_ne C (tgt := 467) dL_builds_420 rfl (fun hc38 => ?_) (fun hc38 => ?_)
          · have hJ := hJt hc38; clear hJt hJf
            refine V_iconst (v := 0) C dL_builds_467 ci_0 ?_
            refine V_istore (lv' := [(7, .int 0), (0, .ref (ad (0, 0, 0))), (1, .ref b), (2, .int b2), (4, .ref (ad (17, 0, 0))), (5, .ref (ad (18, 0, 0))), (8, .int b8)]) C dL_builds_468 (by decide) rfl ?_
            obtain ⟨x8_39, hx8_39⟩ : ∃ y : Int32, y = b8 + 1 := ⟨_, rfl⟩
            replace hJ := hJ x8_39 hx8_39
            refine V_iinc (v := x8_39) (lv' := [(8, .int x8_39), (7, .int 0), (0, .ref (ad (0, 0, 0))), (1, .ref b), (2, .int b2), (4, .ref (ad (17, 0, 0))), (5, .ref (ad (18, 0, 0)))]) C dL_builds_470 6 rfl (by rw [hx8_39]; exact congrArg _ ci_1) (by decide) rfl ?_
            refine V_goto C (tgt := 264) dL_builds_473 rfl ?_
            refine V_sub (lv' := [(0, .ref (ad (0, 0, 0))), (1, .ref b), (2, .int b2), (4, .ref (ad (17, 0, 0))), (5, .ref (ad (18, 0, 0))), (7, .int 0), (8, .int x8_39)]) [2, 3, 4, 5, 6, 1, 0] rfl ?_
            exact ih264 0 x8_39 τ37 (Nat.lt_of_lt_of_le hJ.2 (Nat.le_of_lt_succ hμ264)) hJ.1
          · have hJ := hJf hc38; clear hJt hJf
            refine V_aload_n C dL_builds_423 0 rfl ?_
            refine V_iload C dL_builds_424 5 rfl ?_
            refine V_aload C dL_builds_426 3 rfl ?_
            refine V_iconst (v := 5) C dL_builds_428 ci_5 ?_
            refine V_iload C dL_builds_429 5 rfl ?_
            refine V_imul C dL_builds_431 ?_
            refine V_iconst (v := 3) C dL_builds_432 ci_3 ?_
            refine V_iadd C dL_builds_433 ?_
            obtain ⟨hv40, hJ⟩ := hJ
            refine V_iald C okX_17_0 0 rfl rfl rfl hv40 dL_builds_434 ?_
            refine V_iconst (v := 0) C dL_builds_435 ci_0 ?_
            refine V_bipush (v := 24) C dL_builds_436 cb_24 ?_
            refine V_cVi (st := []) (ci := 5) C okX_0_0 ⟨Nat.zero_le _, Nat.zero_le _⟩ (M_X5_setField l D tc ad A b8 (τ37 (17, 0, 0) (((5 * b8) + 3).toNatClampNeg)) 0 24 hJ) (cwV 4 C.1.2.2.2.2 gL_builds_X5_setField rfl rfl rfl (by decide +kernel) ⟨Nat.le_of_ble_eq_true rfl, Nat.le_of_ble_eq_true rfl⟩) rfl rfl rfl rfl (Nat.le_of_ble_eq_true rfl) dL_builds_438 (fun r41 τ41 hJ => ?_)
            obtain ⟨hJt, hJf⟩ := hJ
            refine V_if_ne C (tgt := 467) dL_builds_441 rfl (fun hc42 => ?_) (fun hc42 => ?_)
            · have hJ := hJt hc42; clear hJt hJf
              refine V_iconst (v := 0) C dL_builds_467 ci_0 ?_
              refine V_istore (lv' := [(7, .int 0), (0, .ref (ad (0, 0, 0))), (1, .ref b), (2, .int b2), (4, .ref (ad (17, 0, 0))), (5, .ref (ad (18, 0, 0))), (8, .int b8)]) C dL_builds_468 (by decide) rfl ?_
              obtain ⟨x8_43, hx8_43⟩ : ∃ y : Int32, y = b8 + 1 := ⟨_, rfl⟩
              replace hJ := hJ x8_43 hx8_43
              refine V_iinc (v := x8_43) (lv' := [(8, .int x8_43), (7, .int 0), (0, .ref (ad (0, 0, 0))), (1, .ref b), (2, .int b2), (4, .ref (ad (17, 0, 0))), (5, .ref (ad (18, 0, 0)))]) C dL_builds_470 6 rfl (by rw [hx8_43]; exact congrArg _ ci_1) (by decide) rfl ?_
              refine V_goto C (tgt := 264) dL_builds_473 rfl ?_
              refine V_sub (lv' := [(0, .ref (ad (0, 0, 0))), (1, .ref b), (2, .int b2), (4, .ref (ad (17, 0, 0))), (5, .ref (ad (18, 0, 0))), (7, .int 0), (8, .int x8_43)]) [2, 3, 4, 5, 6, 1, 0] rfl ?_
              exact ih264 0 x8_43 τ41 (Nat.lt_of_lt_of_le hJ.2 (Nat.le_of_lt_succ hμ264)) hJ.1
            · have hJ := hJf hc42; clear hJt hJf
              refine V_aload_n C dL_builds_444 0 rfl ?_
              refine V_iload C dL_builds_445 5 rfl ?_
              refine V_aload C dL_builds_447 3 rfl ?_
              refine V_iconst (v := 5) C dL_builds_449 ci_5 ?_
              refine V_iload C dL_builds_450 5 rfl ?_
              refine V_imul C dL_builds_452 ?_
              refine V_iconst (v := 4) C dL_builds_453 ci_4 ?_
              refine V_iadd C dL_builds_454 ?_
              obtain ⟨hv44, hJ⟩ := hJ
              refine V_iald C okX_17_0 0 rfl rfl rfl hv44 dL_builds_455 ?_
              refine V_iconst (v := 0) C dL_builds_456 ci_0 ?_
              refine V_cVi (st := []) (ci := 5) C okX_0_0 ⟨Nat.zero_le _, Nat.zero_le _⟩ (M_X5_setPond l D tc ad A b8 (τ41 (17, 0, 0) (((5 * b8) + 4).toNatClampNeg)) 0 hJ) (cwV 3 C.1.2.2.2.2 gL_builds_X5_setPond rfl rfl rfl (by decide +kernel) ⟨Nat.le_of_ble_eq_true rfl, Nat.le_of_ble_eq_true rfl⟩) rfl rfl rfl rfl (Nat.le_of_ble_eq_true rfl) dL_builds_457 (fun r45 τ45 hJ => ?_)
              obtain ⟨hJt, hJf⟩ := hJ
              refine V_if_ne C (tgt := 467) dL_builds_460 rfl (fun hc46 => ?_) (fun hc46 => ?_)
              · have hJ := hJt hc46; clear hJt hJf
                refine V_iconst (v := 0) C dL_builds_467 ci_0 ?_
                refine V_istore (lv' := [(7, .int 0), (0, .ref (ad (0, 0, 0))), (1, .ref b), (2, .int b2), (4, .ref (ad (17, 0, 0))), (5, .ref (ad (18, 0, 0))), (8, .int b8)]) C dL_builds_468 (by decide) rfl ?_
                obtain ⟨x8_47, hx8_47⟩ : ∃ y : Int32, y = b8 + 1 := ⟨_, rfl⟩
                replace hJ := hJ x8_47 hx8_47
                refine V_iinc (v := x8_47) (lv' := [(8, .int x8_47), (7, .int 0), (0, .ref (ad (0, 0, 0))), (1, .ref b), (2, .int b2), (4, .ref (ad (17, 0, 0))), (5, .ref (ad (18, 0, 0)))]) C dL_builds_470 6 rfl (by rw [hx8_47]; exact congrArg _ ci_1) (by decide) rfl ?_
                refine V_goto C (tgt := 264) dL_builds_473 rfl ?_
                refine V_sub (lv' := [(0, .ref (ad (0, 0, 0))), (1, .ref b), (2, .int b2), (4, .ref (ad (17, 0, 0))), (5, .ref (ad (18, 0, 0))), (7, .int 0), (8, .int x8_47)]) [2, 3, 4, 5, 6, 1, 0] rfl ?_
                exact ih264 0 x8_47 τ45 (Nat.lt_of_lt_of_le hJ.2 (Nat.le_of_lt_succ hμ264)) hJ.1
              · have hJ := hJf hc46; clear hJt hJf
                refine V_iconst (v := 1) C dL_builds_463 ci_1 ?_
                refine V_goto C (tgt := 468) dL_builds_464 rfl ?_
                refine V_istore (lv' := [(7, .int 1), (0, .ref (ad (0, 0, 0))), (1, .ref b), (2, .int b2), (4, .ref (ad (17, 0, 0))), (5, .ref (ad (18, 0, 0))), (8, .int b8)]) C dL_builds_468 (by decide) rfl ?_
                obtain ⟨x8_48, hx8_48⟩ : ∃ y : Int32, y = b8 + 1 := ⟨_, rfl⟩
                replace hJ := hJ x8_48 hx8_48
                refine V_iinc (v := x8_48) (lv' := [(8, .int x8_48), (7, .int 1), (0, .ref (ad (0, 0, 0))), (1, .ref b), (2, .int b2), (4, .ref (ad (17, 0, 0))), (5, .ref (ad (18, 0, 0)))]) C dL_builds_470 6 rfl (by rw [hx8_48]; exact congrArg _ ci_1) (by decide) rfl ?_
                refine V_goto C (tgt := 264) dL_builds_473 rfl ?_
                refine V_sub (lv' := [(0, .ref (ad (0, 0, 0))), (1, .ref b), (2, .int b2), (4, .ref (ad (17, 0, 0))), (5, .ref (ad (18, 0, 0))), (7, .int 1), (8, .int x8_48)]) [2, 3, 4, 5, 6, 1, 0] rfl ?_
                exact ih264 1 x8_48 τ45 (Nat.lt_of_lt_of_le hJ.2 (Nat.le_of_lt_succ hμ264)) hJ.1
        refine V_iload C dL_builds_264 6 rfl ?_
        refine V_aload C dL_builds_266 4 rfl ?_
        refine V_iconst (v := 1) C dL_builds_268 ci_1 ?_
        refine V_iald C okX_18_0 0 rfl rfl ix_1 vpc_1_4 dL_builds_269 ?_
        obtain ⟨hJt, hJf⟩ := hJ
        refine V_icmp_ge C (tgt := 476) dL_builds_270 rfl (fun hc14 => ?_) (fun hc14 => ?_)
        · have hJ := hJt hc14; clear hJt hJf
          refine V_sub (lv' := [(0, .ref (ad (0, 0, 0))), (5, .ref (ad (18, 0, 0))), (7, .int x7_13)]) [0, 4, 5] rfl ?_
          exact B476 x7_13 τ13 hJ
        · have hJ := hJf hc14; clear hJt hJf
          refine V_iload C dL_builds_273 5 rfl ?_
          obtain ⟨hJt, hJf⟩ := hJ
          refine V_if_eq C (tgt := 476) dL_builds_275 rfl (fun hc20 => ?_) (fun hc20 => ?_)
          · have hJ := hJt hc20; clear hJt hJf
            refine V_sub (lv' := [(0, .ref (ad (0, 0, 0))), (5, .ref (ad (18, 0, 0))), (7, .int x7_13)]) [0, 4, 5] rfl ?_
            exact B476 x7_13 τ13 hJ
          · have hJ := hJf hc20; clear hJt hJf
            refine V_aload_n C dL_builds_278 1 rfl ?_
            refine V_iload_n C dL_builds_279 2 rfl ?_
            refine V_iconst (v := 5) C dL_builds_280 ci_5 ?_
            refine V_iadd C dL_builds_281 ?_
            refine V_iload C dL_builds_282 6 rfl ?_
            refine V_iadd C dL_builds_284 ?_
            refine V_cSSi (st := []) C hX hbl hbA ⟨Nat.zero_le _, Nat.zero_le _⟩ (M_L_cell l D tc ad A L xs b ((b2 + 5) + x8_13) hJ) (va_cwS 2 C.1.2.2.2.2 gL_builds_L_cell rfl rfl rfl (by decide +kernel) ⟨Nat.le_of_ble_eq_true rfl, Nat.le_of_ble_eq_true rfl⟩) rfl rfl (Nat.le_of_ble_eq_true rfl) dL_builds_285 (fun r21 τ21 hJ => ?_)
            refine V_istore (lv' := [(9, .int r21), (0, .ref (ad (0, 0, 0))), (1, .ref b), (2, .int b2), (4, .ref (ad (17, 0, 0))), (5, .ref (ad (18, 0, 0))), (7, .int x7_13), (8, .int x8_13)]) C dL_builds_288 (by decide) rfl ?_
            refine V_aload C dL_builds_290 4 rfl ?_
            refine V_iconst (v := 5) C dL_builds_292 ci_5 ?_
            refine V_iload C dL_builds_293 7 rfl ?_
            refine V_imul C dL_builds_295 ?_
            refine V_iload C dL_builds_296 0 rfl ?_
            refine V_aload C dL_builds_298 5 rfl ?_
            refine V_iconst (v := 0) C dL_builds_300 ci_0 ?_
            refine V_iald C okX_18_0 0 rfl rfl ix_0 vpc_0_4 dL_builds_301 ?_
            obtain ⟨hz22, hJ⟩ := hJ
            refine V_irem C dL_builds_302 hz22 ?_
            obtain ⟨hv23, hJ⟩ := hJ
            refine V_iast C okX_17_0 0 rfl (fun _ => rfl) rfl hv23 dL_builds_303 (fun τ24 hτ24 => ?_)
            replace hJ := hJ τ24 hτ24
            refine V_aload C dL_builds_304 4 rfl ?_
            refine V_iconst (v := 5) C dL_builds_306 ci_5 ?_
            refine V_iload C dL_builds_307 7 rfl ?_
            refine V_imul C dL_builds_309 ?_
            refine V_iconst (v := 1) C dL_builds_310 ci_1 ?_
            refine V_iadd C dL_builds_311 ?_
            refine V_sipush (v := 1880) C dL_builds_312 cs_1880 ?_
            refine V_iload C dL_builds_315 0 rfl ?_
            refine V_iconst (v := 4) C dL_builds_317 ci_4 ?_
            refine V_ishr C dL_builds_318 ?_
            refine V_bipush (v := 9) C dL_builds_319 cb_9 ?_
            refine V_irem C dL_builds_321 (by decide) ?_
            refine V_iadd C dL_builds_322 ?_
            obtain ⟨hv25, hJ⟩ := hJ
            refine V_iast C okX_17_0 0 rfl (fun _ => rfl) rfl hv25 dL_builds_323 (fun τ26 hτ26 => ?_)
            replace hJ := hJ τ26 hτ26
            refine V_aload C dL_builds_324 4 rfl ?_
            refine V_iconst (v := 5) C dL_builds_326 ci_5 ?_
            refine V_iload C dL_builds_327 7 rfl ?_
            refine V_imul C dL_builds_329 ?_
            refine V_iconst (v := 2) C dL_builds_330 ci_2 ?_
            refine V_iadd C dL_builds_331 ?_
            refine V_iload C dL_builds_332 0 rfl ?_
            refine V_bipush (v := 8) C dL_builds_334 cb_8 ?_
            refine V_ishr C dL_builds_336 ?_
            refine V_bipush (v := 40) C dL_builds_337 cb_40 ?_
            refine V_irem C dL_builds_339 (by decide) ?_
            obtain ⟨hv27, hJ⟩ := hJ
            refine V_iast C okX_17_0 0 rfl (fun _ => rfl) rfl hv27 dL_builds_340 (fun τ28 hτ28 => ?_)
            replace hJ := hJ τ28 hτ28
            refine V_aload C dL_builds_341 4 rfl ?_
            refine V_iconst (v := 5) C dL_builds_343 ci_5 ?_
            refine V_iload C dL_builds_344 7 rfl ?_
            refine V_imul C dL_builds_346 ?_
            refine V_iconst (v := 3) C dL_builds_347 ci_3 ?_
            refine V_iadd C dL_builds_348 ?_
            refine V_iload C dL_builds_349 0 rfl ?_
            refine V_bipush (v := 14) C dL_builds_351 cb_14 ?_
            refine V_ishr C dL_builds_353 ?_
            refine V_bipush (v := 30) C dL_builds_354 cb_30 ?_
            refine V_irem C dL_builds_356 (by decide) ?_
            obtain ⟨hv29, hJ⟩ := hJ
            refine V_iast C okX_17_0 0 rfl (fun _ => rfl) rfl hv29 dL_builds_357 (fun τ30 hτ30 => ?_)
            replace hJ := hJ τ30 hτ30
            refine V_aload C dL_builds_358 4 rfl ?_
            refine V_iconst (v := 5) C dL_builds_360 ci_5 ?_
            refine V_iload C dL_builds_361 7 rfl ?_
            refine V_imul C dL_builds_363 ?_
            refine V_iconst (v := 4) C dL_builds_364 ci_4 ?_
            refine V_iadd C dL_builds_365 ?_
            refine V_iload C dL_builds_366 0 rfl ?_
            refine V_bipush (v := 19) C dL_builds_368 cb_19 ?_
            refine V_ishr C dL_builds_370 ?_
            refine V_iconst (v := 3) C dL_builds_371 ci_3 ?_
            refine V_irem C dL_builds_372 (by decide) ?_
            obtain ⟨hJt, hJf⟩ := hJ
            refine V_if_ne C (tgt := 387) dL_builds_373 rfl (fun hc31 => ?_) (fun hc31 => ?_)
            · have hJ := hJt hc31; clear hJt hJf
              refine V_iconst (v := 0) C dL_builds_387 ci_0 ?_
              refine V_sub (lv' := [(0, .ref (ad (0, 0, 0))), (1, .ref b), (2, .int b2), (4, .ref (ad (17, 0, 0))), (5, .ref (ad (18, 0, 0))), (8, .int x8_13)]) [1, 2, 3, 4, 5, 7] rfl ?_
              exact B388 x8_13 0 ((5 * x8_13) + 4) τ30 hJ
            · have hJ := hJf hc31; clear hJt hJf
              refine V_iload C dL_builds_376 0 rfl ?_
              refine V_bipush (v := 21) C dL_builds_378 cb_21 ?_
              refine V_ishr C dL_builds_380 ?_
              refine V_bipush (v := 60) C dL_builds_381 cb_60 ?_
              refine V_irem C dL_builds_383 (by decide) ?_
              refine V_goto C (tgt := 388) dL_builds_384 rfl ?_
              refine V_sub (lv' := [(0, .ref (ad (0, 0, 0))), (1, .ref b), (2, .int b2), (4, .ref (ad (17, 0, 0))), (5, .ref (ad (18, 0, 0))), (8, .int x8_13)]) [1, 2, 3, 4, 5, 7] rfl ?_
              exact B388 x8_13 ((r21 >>> ((21 : Int32) &&& 31) : Int32) - (r21 >>> ((21 : Int32) &&& 31) : Int32) / 60 * 60) ((5 * x8_13) + 4) τ30 hJ
    exact L264 _ b7 0 τ (Nat.lt_succ_self _) hI264
  have B130 : ∀ (b2 : Int32) (t0 : Int32) (τ : Mem), J_L_builds_b130 L xs x2  b2 t0 τ Qr → VV p l e (headSpec wsL_builds ({ frames := 3, cells := 0, slots := 0, locals := 70 })).room s m ([.ref (ad (0, 0, 0)), .ref b, .int x2, .ref (ad (16, 0, 0)), .ref (ad (17, 0, 0)), .ref (ad (18, 0, 0))] : List Value).toArray below meth c D vwCl idsX ad (ceX tc ad) A (MQ below (va_Qi (fun (r : Int32) (u : Mem) => Qr r u) (WdO D vwCl idsX ad (ceX tc ad) A) A) ([.ref (ad (0, 0, 0)), .ref b, .int x2, .ref (ad (16, 0, 0)), .ref (ad (17, 0, 0)), .ref (ad (18, 0, 0))] : List Value).toArray s 0 0 A) 10 (0, 0) 130 [(0, .ref (ad (0, 0, 0))), (1, .ref b), (2, .int b2), (3, .ref (ad (16, 0, 0))), (4, .ref (ad (17, 0, 0))), (5, .ref (ad (18, 0, 0)))] [.int t0] τ := by
    intro b2 t0 τ hJ
    unfold J_L_builds_b130 at hJ
    refine V_istore (lv' := [(7, .int t0), (0, .ref (ad (0, 0, 0))), (1, .ref b), (2, .int b2), (3, .ref (ad (16, 0, 0))), (4, .ref (ad (17, 0, 0))), (5, .ref (ad (18, 0, 0)))]) C dL_builds_130 (by decide) rfl ?_
    refine V_iconst (v := 1) C dL_builds_132 ci_1 ?_
    refine V_istore (lv' := [(8, .int 1), (7, .int t0), (0, .ref (ad (0, 0, 0))), (1, .ref b), (2, .int b2), (3, .ref (ad (16, 0, 0))), (4, .ref (ad (17, 0, 0))), (5, .ref (ad (18, 0, 0)))]) C dL_builds_133 (by decide) rfl ?_
    refine V_sub (lv' := [(0, .ref (ad (0, 0, 0))), (1, .ref b), (2, .int b2), (3, .ref (ad (16, 0, 0))), (4, .ref (ad (17, 0, 0))), (5, .ref (ad (18, 0, 0))), (7, .int t0), (8, .int 1)]) [2, 3, 4, 5, 6, 7, 1, 0] rfl ?_
    obtain ⟨I135, μ135, hI135, hst135⟩ := hJ
    have L135 : ∀ (n : Nat) (x7_11 : Int32) (x8_11 : Int32) (τ11 : Mem), μ135 x7_11 x8_11 τ11 < n → I135 x7_11 x8_11 τ11 → VV p l e (headSpec wsL_builds ({ frames := 3, cells := 0, slots := 0, locals := 70 })).room s m ([.ref (ad (0, 0, 0)), .ref b, .int x2, .ref (ad (16, 0, 0)), .ref (ad (17, 0, 0)), .ref (ad (18, 0, 0))] : List Value).toArray below meth c D vwCl idsX ad (ceX tc ad) A (MQ below (va_Qi (fun (r : Int32) (u : Mem) => Qr r u) (WdO D vwCl idsX ad (ceX tc ad) A) A) ([.ref (ad (0, 0, 0)), .ref b, .int x2, .ref (ad (16, 0, 0)), .ref (ad (17, 0, 0)), .ref (ad (18, 0, 0))] : List Value).toArray s 0 0 A) 10 (0, 0) 135 [(0, .ref (ad (0, 0, 0))), (1, .ref b), (2, .int b2), (3, .ref (ad (16, 0, 0))), (4, .ref (ad (17, 0, 0))), (5, .ref (ad (18, 0, 0))), (7, .int x7_11), (8, .int x8_11)] [] τ11 := by
      intro n
      induction n with
      | zero => intro x7_11 x8_11 τ11 hμ _; exact absurd hμ (Nat.not_lt_zero _)
      | succ n ihn =>
        intro x7_11 x8_11 τ11 hμ135 hJ
        have ih135 := ihn
        replace hJ := hst135 x7_11 x8_11 τ11 hJ
        have B216 : ∀ (b8 : Int32) (t0 : Int32) (t1 : Int32) (τ : Mem), J_L_builds_b216 L xs x2 b2 (fun z0 z1 z2 => I135 z0 z1 z2 ∧ μ135 z0 z1 z2 < μ135 x7_11 x8_11 τ11) b8 t0 t1 τ Qr → VV p l e (headSpec wsL_builds ({ frames := 3, cells := 0, slots := 0, locals := 70 })).room s m ([.ref (ad (0, 0, 0)), .ref b, .int x2, .ref (ad (16, 0, 0)), .ref (ad (17, 0, 0)), .ref (ad (18, 0, 0))] : List Value).toArray below meth c D vwCl idsX ad (ceX tc ad) A (MQ below (va_Qi (fun (r : Int32) (u : Mem) => Qr r u) (WdO D vwCl idsX ad (ceX tc ad) A) A) ([.ref (ad (0, 0, 0)), .ref b, .int x2, .ref (ad (16, 0, 0)), .ref (ad (17, 0, 0)), .ref (ad (18, 0, 0))] : List Value).toArray s 0 0 A) 10 (0, 0) 216 [(0, .ref (ad (0, 0, 0))), (1, .ref b), (2, .int b2), (3, .ref (ad (16, 0, 0))), (4, .ref (ad (17, 0, 0))), (5, .ref (ad (18, 0, 0))), (8, .int b8)] [.int t0, .int t1, .ref (ad (16, 0, 0))] τ := by
          intro b8 t0 t1 τ hJ
          unfold J_L_builds_b216 at hJ
          obtain ⟨hv57, hJ⟩ := hJ
          refine V_iast C okX_16_0 0 rfl (fun _ => rfl) rfl hv57 dL_builds_216 (fun τ58 hτ58 => ?_)
          replace hJ := hJ τ58 hτ58
          refine V_aload_n C dL_builds_217 0 rfl ?_
          refine V_aload_n C dL_builds_218 3 rfl ?_
          refine V_iconst (v := 3) C dL_builds_219 ci_3 ?_
          refine V_iload C dL_builds_220 6 rfl ?_
          refine V_imul C dL_builds_222 ?_
          obtain ⟨hv59, hJ⟩ := hJ
          refine V_iald C okX_16_0 0 rfl rfl rfl hv59 dL_builds_223 ?_
          refine V_aload_n C dL_builds_224 3 rfl ?_
          refine V_iconst (v := 3) C dL_builds_225 ci_3 ?_
          refine V_iload C dL_builds_226 6 rfl ?_
          refine V_imul C dL_builds_228 ?_
          refine V_iconst (v := 1) C dL_builds_229 ci_1 ?_
          refine V_iadd C dL_builds_230 ?_
          obtain ⟨hv60, hJ⟩ := hJ
          refine V_iald C okX_16_0 0 rfl rfl rfl hv60 dL_builds_231 ?_
          refine V_aload_n C dL_builds_232 3 rfl ?_
          refine V_iconst (v := 3) C dL_builds_233 ci_3 ?_
          refine V_iload C dL_builds_234 6 rfl ?_
          refine V_imul C dL_builds_236 ?_
          refine V_iconst (v := 2) C dL_builds_237 ci_2 ?_
          refine V_iadd C dL_builds_238 ?_
          obtain ⟨hv61, hJ⟩ := hJ
          refine V_iald C okX_16_0 0 rfl rfl rfl hv61 dL_builds_239 ?_
          refine V_cVi (st := []) (ci := 5) C okX_0_0 ⟨Nat.zero_le _, Nat.zero_le _⟩ (M_X5_addDitch l D tc ad A (τ58 (16, 0, 0) ((3 * b8).toNatClampNeg)) (τ58 (16, 0, 0) (((3 * b8) + 1).toNatClampNeg)) (τ58 (16, 0, 0) (((3 * b8) + 2).toNatClampNeg)) hJ) (cwV 3 C.1.2.2.2.2 gL_builds_X5_addDitch rfl rfl rfl (by decide +kernel) ⟨Nat.le_of_ble_eq_true rfl, Nat.le_of_ble_eq_true rfl⟩) rfl rfl rfl rfl (Nat.le_of_ble_eq_true rfl) dL_builds_240 (fun r62 τ62 hJ => ?_)
          refine V_iload C dL_builds_243 6 rfl ?_
          obtain ⟨hJt, hJf⟩ := hJ
          refine V_icmp_ne C (tgt := 252) dL_builds_245 rfl (fun hc63 => ?_) (fun hc63 => ?_)
          · have hJ := hJt hc63; clear hJt hJf
            refine V_iconst (v := 0) C dL_builds_252 ci_0 ?_
            refine V_istore (lv' := [(7, .int 0), (0, .ref (ad (0, 0, 0))), (1, .ref b), (2, .int b2), (3, .ref (ad (16, 0, 0))), (4, .ref (ad (17, 0, 0))), (5, .ref (ad (18, 0, 0))), (8, .int b8)]) C dL_builds_253 (by decide) rfl ?_
            obtain ⟨x8_64, hx8_64⟩ : ∃ y : Int32, y = b8 + 1 := ⟨_, rfl⟩
            replace hJ := hJ x8_64 hx8_64
            refine V_iinc (v := x8_64) (lv' := [(8, .int x8_64), (7, .int 0), (0, .ref (ad (0, 0, 0))), (1, .ref b), (2, .int b2), (3, .ref (ad (16, 0, 0))), (4, .ref (ad (17, 0, 0))), (5, .ref (ad (18, 0, 0)))]) C dL_builds_255 7 rfl (by rw [hx8_64]; exact congrArg _ ci_1) (by decide) rfl ?_
            refine V_goto C (tgt := 135) dL_builds_258 rfl ?_
            refine V_sub (lv' := [(0, .ref (ad (0, 0, 0))), (1, .ref b), (2, .int b2), (3, .ref (ad (16, 0, 0))), (4, .ref (ad (17, 0, 0))), (5, .ref (ad (18, 0, 0))), (7, .int 0), (8, .int x8_64)]) [2, 3, 4, 5, 6, 7, 1, 0] rfl ?_
            exact ih135 0 x8_64 τ62 (Nat.lt_of_lt_of_le hJ.2 (Nat.le_of_lt_succ hμ135)) hJ.1
          · have hJ := hJf hc63; clear hJt hJf
            refine V_iconst (v := 1) C dL_builds_248 ci_1 ?_
            refine V_goto C (tgt := 253) dL_builds_249 rfl ?_
            refine V_istore (lv' := [(7, .int 1), (0, .ref (ad (0, 0, 0))), (1, .ref b), (2, .int b2), (3, .ref (ad (16, 0, 0))), (4, .ref (ad (17, 0, 0))), (5, .ref (ad (18, 0, 0))), (8, .int b8)]) C dL_builds_253 (by decide) rfl ?_
            obtain ⟨x8_65, hx8_65⟩ : ∃ y : Int32, y = b8 + 1 := ⟨_, rfl⟩
            replace hJ := hJ x8_65 hx8_65
            refine V_iinc (v := x8_65) (lv' := [(8, .int x8_65), (7, .int 1), (0, .ref (ad (0, 0, 0))), (1, .ref b), (2, .int b2), (3, .ref (ad (16, 0, 0))), (4, .ref (ad (17, 0, 0))), (5, .ref (ad (18, 0, 0)))]) C dL_builds_255 7 rfl (by rw [hx8_65]; exact congrArg _ ci_1) (by decide) rfl ?_
            refine V_goto C (tgt := 135) dL_builds_258 rfl ?_
            refine V_sub (lv' := [(0, .ref (ad (0, 0, 0))), (1, .ref b), (2, .int b2), (3, .ref (ad (16, 0, 0))), (4, .ref (ad (17, 0, 0))), (5, .ref (ad (18, 0, 0))), (7, .int 1), (8, .int x8_65)]) [2, 3, 4, 5, 6, 7, 1, 0] rfl ?_
            exact ih135 1 x8_65 τ62 (Nat.lt_of_lt_of_le hJ.2 (Nat.le_of_lt_succ hμ135)) hJ.1
        refine V_iload C dL_builds_135 7 rfl ?_
        refine V_aload C dL_builds_137 5 rfl ?_
        refine V_iconst (v := 0) C dL_builds_139 ci_0 ?_
        refine V_iald C okX_18_0 0 rfl rfl ix_0 vpc_0_4 dL_builds_140 ?_
        obtain ⟨hJt, hJf⟩ := hJ
        refine V_icmp_ge C (tgt := 261) dL_builds_141 rfl (fun hc12 => ?_) (fun hc12 => ?_)
        · have hJ := hJt hc12; clear hJt hJf
          refine V_sub (lv' := [(0, .ref (ad (0, 0, 0))), (1, .ref b), (2, .int b2), (4, .ref (ad (17, 0, 0))), (5, .ref (ad (18, 0, 0))), (7, .int x7_11)]) [0, 1, 2, 4, 5, 6] rfl ?_
          exact B261 b2 x7_11 τ11 hJ
        · have hJ := hJf hc12; clear hJt hJf
          refine V_iload C dL_builds_144 6 rfl ?_
          obtain ⟨hJt, hJf⟩ := hJ
          refine V_if_eq C (tgt := 261) dL_builds_146 rfl (fun hc49 => ?_) (fun hc49 => ?_)
          · have hJ := hJt hc49; clear hJt hJf
            refine V_sub (lv' := [(0, .ref (ad (0, 0, 0))), (1, .ref b), (2, .int b2), (4, .ref (ad (17, 0, 0))), (5, .ref (ad (18, 0, 0))), (7, .int x7_11)]) [0, 1, 2, 4, 5, 6] rfl ?_
            exact B261 b2 x7_11 τ11 hJ
          · have hJ := hJf hc49; clear hJt hJf
            refine V_aload_n C dL_builds_149 1 rfl ?_
            refine V_iload_n C dL_builds_150 2 rfl ?_
            refine V_iload C dL_builds_151 7 rfl ?_
            refine V_iadd C dL_builds_153 ?_
            refine V_cSSi (st := []) C hX hbl hbA ⟨Nat.zero_le _, Nat.zero_le _⟩ (M_L_cell l D tc ad A L xs b (b2 + x8_11) hJ) (va_cwS 2 C.1.2.2.2.2 gL_builds_L_cell rfl rfl rfl (by decide +kernel) ⟨Nat.le_of_ble_eq_true rfl, Nat.le_of_ble_eq_true rfl⟩) rfl rfl (Nat.le_of_ble_eq_true rfl) dL_builds_154 (fun r50 τ50 hJ => ?_)
            refine V_istore (lv' := [(9, .int r50), (0, .ref (ad (0, 0, 0))), (1, .ref b), (2, .int b2), (3, .ref (ad (16, 0, 0))), (4, .ref (ad (17, 0, 0))), (5, .ref (ad (18, 0, 0))), (7, .int x7_11), (8, .int x8_11)]) C dL_builds_157 (by decide) rfl ?_
            refine V_aload_n C dL_builds_159 4 rfl ?_
            refine V_iconst (v := 3) C dL_builds_160 ci_3 ?_
            refine V_iload C dL_builds_161 8 rfl ?_
            refine V_imul C dL_builds_163 ?_
            refine V_iload C dL_builds_164 0 rfl ?_
            refine V_iload C dL_builds_166 8 rfl ?_
            obtain ⟨hz51, hJ⟩ := hJ
            refine V_irem C dL_builds_168 hz51 ?_
            obtain ⟨hv52, hJ⟩ := hJ
            refine V_iast C okX_16_0 0 rfl (fun _ => rfl) rfl hv52 dL_builds_169 (fun τ53 hτ53 => ?_)
            replace hJ := hJ τ53 hτ53
            refine V_aload_n C dL_builds_170 4 rfl ?_
            refine V_iconst (v := 3) C dL_builds_171 ci_3 ?_
            refine V_iload C dL_builds_172 8 rfl ?_
            refine V_imul C dL_builds_174 ?_
            refine V_iconst (v := 1) C dL_builds_175 ci_1 ?_
            refine V_iadd C dL_builds_176 ?_
            refine V_iconst (v := 1) C dL_builds_177 ci_1 ?_
            refine V_iload C dL_builds_178 0 rfl ?_
            refine V_iconst (v := 4) C dL_builds_180 ci_4 ?_
            refine V_ishr C dL_builds_181 ?_
            refine V_bipush (v := 80) C dL_builds_182 cb_80 ?_
            refine V_irem C dL_builds_184 (by decide) ?_
            refine V_iadd C dL_builds_185 ?_
            obtain ⟨hv54, hJ⟩ := hJ
            refine V_iast C okX_16_0 0 rfl (fun _ => rfl) rfl hv54 dL_builds_186 (fun τ55 hτ55 => ?_)
            replace hJ := hJ τ55 hτ55
            refine V_aload_n C dL_builds_187 4 rfl ?_
            refine V_iconst (v := 3) C dL_builds_188 ci_3 ?_
            refine V_iload C dL_builds_189 8 rfl ?_
            refine V_imul C dL_builds_191 ?_
            refine V_iconst (v := 2) C dL_builds_192 ci_2 ?_
            refine V_iadd C dL_builds_193 ?_
            refine V_iload C dL_builds_194 0 rfl ?_
            refine V_bipush (v := 12) C dL_builds_196 cb_12 ?_
            refine V_ishr C dL_builds_198 ?_
            refine V_iconst (v := 3) C dL_builds_199 ci_3 ?_
            refine V_irem C dL_builds_200 (by decide) ?_
            obtain ⟨hJt, hJf⟩ := hJ
            refine V_if_ne C (tgt := 208) dL_builds_201 rfl (fun hc56 => ?_) (fun hc56 => ?_)
            · have hJ := hJt hc56; clear hJt hJf
              refine V_iload C dL_builds_208 0 rfl ?_
              refine V_bipush (v := 14) C dL_builds_210 cb_14 ?_
              refine V_ishr C dL_builds_212 ?_
              refine V_bipush (v := 51) C dL_builds_213 cb_51 ?_
              refine V_irem C dL_builds_215 (by decide) ?_
              refine V_sub (lv' := [(0, .ref (ad (0, 0, 0))), (1, .ref b), (2, .int b2), (3, .ref (ad (16, 0, 0))), (4, .ref (ad (17, 0, 0))), (5, .ref (ad (18, 0, 0))), (8, .int x8_11)]) [1, 2, 3, 4, 5, 6, 8] rfl ?_
              exact B216 x8_11 ((r50 >>> ((14 : Int32) &&& 31) : Int32) - (r50 >>> ((14 : Int32) &&& 31) : Int32) / 51 * 51) ((3 * x8_11) + 2) τ55 hJ
            · have hJ := hJf hc56; clear hJt hJf
              refine V_iconst (v := 0) C dL_builds_204 ci_0 ?_
              refine V_goto C (tgt := 216) dL_builds_205 rfl ?_
              refine V_sub (lv' := [(0, .ref (ad (0, 0, 0))), (1, .ref b), (2, .int b2), (3, .ref (ad (16, 0, 0))), (4, .ref (ad (17, 0, 0))), (5, .ref (ad (18, 0, 0))), (8, .int x8_11)]) [1, 2, 3, 4, 5, 6, 8] rfl ?_
              exact B216 x8_11 0 ((3 * x8_11) + 2) τ55 hJ
    exact L135 _ t0 1 τ (Nat.lt_succ_self _) hI135
  unfold J_L_builds at hJ
  refine V_aload_n C dL_builds_0 1 rfl ?_
  refine V_iload_n C dL_builds_1 2 rfl ?_
  refine V_cSSi (st := []) C hX hbl hbA ⟨Nat.zero_le _, Nat.zero_le _⟩ (M_L_cell l D tc ad A L xs b x2 hJ) (va_cwS 2 C.1.2.2.2.2 gL_builds_L_cell rfl rfl rfl (by decide +kernel) ⟨Nat.le_of_ble_eq_true rfl, Nat.le_of_ble_eq_true rfl⟩) rfl rfl (Nat.le_of_ble_eq_true rfl) dL_builds_2 (fun r1 τ1 hJ => ?_)
  refine V_istore (lv' := [(6, .int r1), (0, .ref (ad (0, 0, 0))), (1, .ref b), (2, .int x2), (3, .ref (ad (16, 0, 0))), (4, .ref (ad (17, 0, 0))), (5, .ref (ad (18, 0, 0)))]) C dL_builds_5 (by decide) rfl ?_
  refine V_aload C dL_builds_7 6 rfl ?_
  refine V_iconst (v := 0) C dL_builds_9 ci_0 ?_
  refine V_iconst (v := 1) C dL_builds_10 ci_1 ?_
  refine V_iload C dL_builds_11 0 rfl ?_
  refine V_iconst (v := 5) C dL_builds_13 ci_5 ?_
  refine V_irem C dL_builds_14 (by decide) ?_
  refine V_iadd C dL_builds_15 ?_
  refine V_iast C okX_18_0 0 rfl (fun _ => rfl) ix_0 vpc_0_4 dL_builds_16 (fun τ2 hτ2 => ?_)
  replace hJ := hJ τ2 hτ2
  refine V_aload C dL_builds_17 6 rfl ?_
  refine V_iconst (v := 1) C dL_builds_19 ci_1 ?_
  refine V_iconst (v := 1) C dL_builds_20 ci_1 ?_
  refine V_iload C dL_builds_21 0 rfl ?_
  refine V_iconst (v := 3) C dL_builds_23 ci_3 ?_
  refine V_ishr C dL_builds_24 ?_
  refine V_bipush (v := 6) C dL_builds_25 cb_6 ?_
  refine V_irem C dL_builds_27 (by decide) ?_
  refine V_iadd C dL_builds_28 ?_
  refine V_iast C okX_18_0 0 rfl (fun _ => rfl) ix_1 vpc_1_4 dL_builds_29 (fun τ3 hτ3 => ?_)
  replace hJ := hJ τ3 hτ3
  refine V_aload C dL_builds_30 6 rfl ?_
  refine V_iconst (v := 2) C dL_builds_32 ci_2 ?_
  refine V_iload C dL_builds_33 0 rfl ?_
  refine V_bipush (v := 6) C dL_builds_35 cb_6 ?_
  refine V_ishr C dL_builds_37 ?_
  refine V_bipush (v := 120) C dL_builds_38 cb_120 ?_
  refine V_irem C dL_builds_40 (by decide) ?_
  refine V_iast C okX_18_0 0 rfl (fun _ => rfl) ix_2 vpc_2_4 dL_builds_41 (fun τ4 hτ4 => ?_)
  replace hJ := hJ τ4 hτ4
  refine V_aload C dL_builds_42 6 rfl ?_
  refine V_iconst (v := 3) C dL_builds_44 ci_3 ?_
  refine V_iload C dL_builds_45 0 rfl ?_
  refine V_bipush (v := 13) C dL_builds_47 cb_13 ?_
  refine V_ishr C dL_builds_49 ?_
  refine V_iconst (v := 3) C dL_builds_50 ci_3 ?_
  refine V_irem C dL_builds_51 (by decide) ?_
  refine V_iast C okX_18_0 0 rfl (fun _ => rfl) ix_3 vpc_3_4 dL_builds_52 (fun τ5 hτ5 => ?_)
  replace hJ := hJ τ5 hτ5
  refine V_aload_n C dL_builds_53 4 rfl ?_
  refine V_iconst (v := 0) C dL_builds_54 ci_0 ?_
  refine V_iconst (v := 0) C dL_builds_55 ci_0 ?_
  refine V_iast C okX_16_0 0 rfl (fun _ => rfl) ix_0 vpc_0_32 dL_builds_56 (fun τ6 hτ6 => ?_)
  replace hJ := hJ τ6 hτ6
  refine V_aload_n C dL_builds_57 4 rfl ?_
  refine V_iconst (v := 1) C dL_builds_58 ci_1 ?_
  refine V_iconst (v := 1) C dL_builds_59 ci_1 ?_
  refine V_iload C dL_builds_60 0 rfl ?_
  refine V_bipush (v := 15) C dL_builds_62 cb_15 ?_
  refine V_ishr C dL_builds_64 ?_
  refine V_sipush (v := 150) C dL_builds_65 cs_150 ?_
  refine V_irem C dL_builds_68 (by decide) ?_
  refine V_iadd C dL_builds_69 ?_
  refine V_iast C okX_16_0 0 rfl (fun _ => rfl) ix_1 vpc_1_32 dL_builds_70 (fun τ7 hτ7 => ?_)
  replace hJ := hJ τ7 hτ7
  refine V_aload_n C dL_builds_71 4 rfl ?_
  refine V_iconst (v := 2) C dL_builds_72 ci_2 ?_
  refine V_iload C dL_builds_73 0 rfl ?_
  refine V_bipush (v := 22) C dL_builds_75 cb_22 ?_
  refine V_ishr C dL_builds_77 ?_
  refine V_bipush (v := 51) C dL_builds_78 cb_51 ?_
  refine V_irem C dL_builds_80 (by decide) ?_
  refine V_iast C okX_16_0 0 rfl (fun _ => rfl) ix_2 vpc_2_32 dL_builds_81 (fun τ8 hτ8 => ?_)
  replace hJ := hJ τ8 hτ8
  refine V_aload_n C dL_builds_82 1 rfl ?_
  refine V_iconst (v := 0) C dL_builds_83 ci_0 ?_
  refine V_aload_n C dL_builds_84 4 rfl ?_
  refine V_iconst (v := 1) C dL_builds_85 ci_1 ?_
  refine V_iald C okX_16_0 0 rfl rfl ix_1 vpc_1_32 dL_builds_86 ?_
  refine V_aload_n C dL_builds_87 4 rfl ?_
  refine V_iconst (v := 2) C dL_builds_88 ci_2 ?_
  refine V_iald C okX_16_0 0 rfl rfl ix_2 vpc_2_32 dL_builds_89 ?_
  refine V_cVi (st := []) (ci := 5) C okX_0_0 ⟨Nat.zero_le _, Nat.zero_le _⟩ (M_X5_setDitch l D tc ad A 0 (τ8 (16, 0, 0) 1) (τ8 (16, 0, 0) 2) hJ) (cwV 3 C.1.2.2.2.2 gL_builds_X5_setDitch rfl rfl rfl (by decide +kernel) ⟨Nat.le_of_ble_eq_true rfl, Nat.le_of_ble_eq_true rfl⟩) rfl rfl rfl rfl (Nat.le_of_ble_eq_true rfl) dL_builds_90 (fun r9 τ9 hJ => ?_)
  refine V_bipush (v := 100) C dL_builds_93 cb_100 ?_
  obtain ⟨hJt, hJf⟩ := hJ
  refine V_icmp_ne C (tgt := 129) dL_builds_95 rfl (fun hc10 => ?_) (fun hc10 => ?_)
  · have hJ := hJt hc10; clear hJt hJf
    refine V_iconst (v := 0) C dL_builds_129 ci_0 ?_
    refine V_sub (lv' := [(0, .ref (ad (0, 0, 0))), (1, .ref b), (2, .int x2), (3, .ref (ad (16, 0, 0))), (4, .ref (ad (17, 0, 0))), (5, .ref (ad (18, 0, 0)))]) [1, 2, 3, 4, 5, 6] rfl ?_
    exact B130 x2 0 τ9 hJ
  · have hJ := hJf hc10; clear hJt hJf
    refine V_aload_n C dL_builds_98 1 rfl ?_
    refine V_iconst (v := 0) C dL_builds_99 ci_0 ?_
    refine V_bipush (v := 24) C dL_builds_100 cb_24 ?_
    refine V_aload C dL_builds_102 6 rfl ?_
    refine V_iconst (v := 2) C dL_builds_104 ci_2 ?_
    refine V_iald C okX_18_0 0 rfl rfl ix_2 vpc_2_4 dL_builds_105 ?_
    refine V_cVi (st := []) (ci := 5) C okX_0_0 ⟨Nat.zero_le _, Nat.zero_le _⟩ (M_X5_setSupply l D tc ad A 0 24 (τ9 (18, 0, 0) 2) hJ) (cwV 3 C.1.2.2.2.2 gL_builds_X5_setSupply rfl rfl rfl (by decide +kernel) ⟨Nat.le_of_ble_eq_true rfl, Nat.le_of_ble_eq_true rfl⟩) rfl rfl rfl rfl (Nat.le_of_ble_eq_true rfl) dL_builds_106 (fun r66 τ66 hJ => ?_)
    refine V_bipush (v := 100) C dL_builds_109 cb_100 ?_
    obtain ⟨hJt, hJf⟩ := hJ
    refine V_icmp_ne C (tgt := 129) dL_builds_111 rfl (fun hc67 => ?_) (fun hc67 => ?_)
    · have hJ := hJt hc67; clear hJt hJf
      refine V_iconst (v := 0) C dL_builds_129 ci_0 ?_
      refine V_sub (lv' := [(0, .ref (ad (0, 0, 0))), (1, .ref b), (2, .int x2), (3, .ref (ad (16, 0, 0))), (4, .ref (ad (17, 0, 0))), (5, .ref (ad (18, 0, 0)))]) [1, 2, 3, 4, 5, 6] rfl ?_
      exact B130 x2 0 τ66 hJ
    · have hJ := hJf hc67; clear hJt hJf
      refine V_aload_n C dL_builds_114 1 rfl ?_
      refine V_aload C dL_builds_115 6 rfl ?_
      refine V_iconst (v := 3) C dL_builds_117 ci_3 ?_
      refine V_iald C okX_18_0 0 rfl rfl ix_3 vpc_3_4 dL_builds_118 ?_
      refine V_cVi (st := []) (ci := 5) C okX_0_0 ⟨Nat.zero_le _, Nat.zero_le _⟩ (M_X5_setRule l D tc ad A (τ66 (18, 0, 0) 3) hJ) (cwV 1 C.1.2.2.2.2 gL_builds_X5_setRule rfl rfl rfl (by decide +kernel) ⟨Nat.le_of_ble_eq_true rfl, Nat.le_of_ble_eq_true rfl⟩) rfl rfl rfl rfl (Nat.le_of_ble_eq_true rfl) dL_builds_119 (fun r68 τ68 hJ => ?_)
      obtain ⟨hJt, hJf⟩ := hJ
      refine V_if_ne C (tgt := 129) dL_builds_122 rfl (fun hc69 => ?_) (fun hc69 => ?_)
      · have hJ := hJt hc69; clear hJt hJf
        refine V_iconst (v := 0) C dL_builds_129 ci_0 ?_
        refine V_sub (lv' := [(0, .ref (ad (0, 0, 0))), (1, .ref b), (2, .int x2), (3, .ref (ad (16, 0, 0))), (4, .ref (ad (17, 0, 0))), (5, .ref (ad (18, 0, 0)))]) [1, 2, 3, 4, 5, 6] rfl ?_
        exact B130 x2 0 τ68 hJ
      · have hJ := hJf hc69; clear hJt hJf
        refine V_iconst (v := 1) C dL_builds_125 ci_1 ?_
        refine V_goto C (tgt := 130) dL_builds_126 rfl ?_
        refine V_sub (lv' := [(0, .ref (ad (0, 0, 0))), (1, .ref b), (2, .int x2), (3, .ref (ad (16, 0, 0))), (4, .ref (ad (17, 0, 0))), (5, .ref (ad (18, 0, 0)))]) [1, 2, 3, 4, 5, 6] rfl ?_
        exact B130 x2 1 τ68 hJ
set_option maxHeartbeats 4000000 in
set_option maxRecDepth 100000 in
theorem M_L_eldest (l : Launch) (D : va_G) (tc : Nat → ClassId) (ad : Oid → Nat) (A : Nat → Prop) {σ : Mem} {Qr : Int32 → Mem → Prop} (hJ : J_L_eldest σ Qr) : Met l yL_eldest wsL_eldest ({ frames := 7, cells := 0, slots := 0, locals := 162 }) (va_Pc [.ref (ad (0, 0, 0)), .ref (ad (18, 0, 0))] (WdI D vwCl (tysX tc) idsX ad (ceX tc ad) A σ)) (va_Qi (fun (r : Int32) (u : Mem) => Qr r u) (WdO D vwCl idsX ad (ceX tc ad) A) A) 0 0 A := by
  refine V_meti (cc := cL_eldest) (nL := 7) (ret := (some .boolean)) (own := RL) rfl (plainFor_of_name (by decide)) rfl rfl (Nat.le_of_ble_eq_true rfl) ?_
  intro p e s m below meth c C hr hlocks
  refine V_sub (lv' := [(0, .ref (ad (0, 0, 0))), (1, .ref (ad (18, 0, 0)))]) [0, 1] rfl ?_
  have B36 : ∀ (b2 : Int32) (b3 : Int32) (b4 : Int32) (t0 : Int32) (τ : Mem), J_L_eldest_b36   b2 b3 b4 t0 τ Qr → VV p l e (headSpec wsL_eldest ({ frames := 7, cells := 0, slots := 0, locals := 162 })).room s m ([.ref (ad (0, 0, 0)), .ref (ad (18, 0, 0))] : List Value).toArray below meth c D vwCl idsX ad (ceX tc ad) A (MQ below (va_Qi (fun (r : Int32) (u : Mem) => Qr r u) (WdO D vwCl idsX ad (ceX tc ad) A) A) ([.ref (ad (0, 0, 0)), .ref (ad (18, 0, 0))] : List Value).toArray s 0 0 A) 7 (0, 0) 36 [(0, .ref (ad (0, 0, 0))), (1, .ref (ad (18, 0, 0))), (2, .int b2), (3, .int b3), (4, .int b4)] [.int t0] τ := by
    intro b2 b3 b4 t0 τ hJ
    unfold J_L_eldest_b36 at hJ
    refine V_istore (lv' := [(5, .int t0), (0, .ref (ad (0, 0, 0))), (1, .ref (ad (18, 0, 0))), (2, .int b2), (3, .int b3), (4, .int b4)]) C dL_eldest_36 (by decide) rfl ?_
    refine V_iconst (v := 0) C dL_eldest_38 ci_0 ?_
    refine V_istore (lv' := [(6, .int 0), (5, .int t0), (0, .ref (ad (0, 0, 0))), (1, .ref (ad (18, 0, 0))), (2, .int b2), (3, .int b3), (4, .int b4)]) C dL_eldest_39 (by decide) rfl ?_
    refine V_sub (lv' := [(0, .ref (ad (0, 0, 0))), (1, .ref (ad (18, 0, 0))), (2, .int b2), (3, .int b3), (4, .int b4), (5, .int t0), (6, .int 0)]) [2, 3, 4, 5, 6, 1, 0] rfl ?_
    obtain ⟨I41, μ41, hI41, hst41⟩ := hJ
    have L41 : ∀ (n : Nat) (x5_7 : Int32) (x6_7 : Int32) (τ7 : Mem), μ41 x5_7 x6_7 τ7 < n → I41 x5_7 x6_7 τ7 → VV p l e (headSpec wsL_eldest ({ frames := 7, cells := 0, slots := 0, locals := 162 })).room s m ([.ref (ad (0, 0, 0)), .ref (ad (18, 0, 0))] : List Value).toArray below meth c D vwCl idsX ad (ceX tc ad) A (MQ below (va_Qi (fun (r : Int32) (u : Mem) => Qr r u) (WdO D vwCl idsX ad (ceX tc ad) A) A) ([.ref (ad (0, 0, 0)), .ref (ad (18, 0, 0))] : List Value).toArray s 0 0 A) 7 (0, 0) 41 [(0, .ref (ad (0, 0, 0))), (1, .ref (ad (18, 0, 0))), (2, .int b2), (3, .int b3), (4, .int b4), (5, .int x5_7), (6, .int x6_7)] [] τ7 := by
      intro n
      induction n with
      | zero => intro x5_7 x6_7 τ7 hμ _; exact absurd hμ (Nat.not_lt_zero _)
      | succ n ihn =>
        intro x5_7 x6_7 τ7 hμ41 hJ
        have ih41 := ihn
        replace hJ := hst41 x5_7 x6_7 τ7 hJ
        refine V_iload C dL_eldest_41 6 rfl ?_
        refine V_aload_n C dL_eldest_43 1 rfl ?_
        refine V_iconst (v := 1) C dL_eldest_44 ci_1 ?_
        refine V_iald C okX_18_0 0 rfl rfl ix_1 vpc_1_4 dL_eldest_45 ?_
        obtain ⟨hJt, hJf⟩ := hJ
        refine V_icmp_ge C (tgt := 94) dL_eldest_46 rfl (fun hc8 => ?_) (fun hc8 => ?_)
        · have hJ := hJt hc8; clear hJt hJf
          refine V_iload C dL_eldest_94 5 rfl ?_
          obtain ⟨hJt, hJf⟩ := hJ
          refine V_if_eq C (tgt := 121) dL_eldest_96 rfl (fun hc9 => ?_) (fun hc9 => ?_)
          · have hJ := hJt hc9; clear hJt hJf
            refine V_iconst (v := 0) C dL_eldest_121 ci_0 ?_
            exact V_zret C hr hlocks (Or.inl rfl) dL_eldest_122 hJ
          · have hJ := hJf hc9; clear hJt hJf
            refine V_aload_n C dL_eldest_99 0 rfl ?_
            refine V_iload_n C dL_eldest_100 2 rfl ?_
            refine V_cVi (st := []) (ci := 5) C okX_0_0 ⟨Nat.zero_le _, Nat.zero_le _⟩ (M_X5_gets l D tc ad A b2 hJ) (cwV 1 C.1.2.2.2.2 gL_eldest_X5_gets rfl rfl rfl (by decide +kernel) ⟨Nat.le_of_ble_eq_true rfl, Nat.le_of_ble_eq_true rfl⟩) rfl rfl rfl rfl (Nat.le_of_ble_eq_true rfl) dL_eldest_101 (fun r10 τ10 hJ => ?_)
            refine V_iload C dL_eldest_104 4 rfl ?_
            obtain ⟨hJt, hJf⟩ := hJ
            refine V_icmp_ne C (tgt := 121) dL_eldest_106 rfl (fun hc11 => ?_) (fun hc11 => ?_)
            · have hJ := hJt hc11; clear hJt hJf
              refine V_iconst (v := 0) C dL_eldest_121 ci_0 ?_
              exact V_zret C hr hlocks (Or.inl rfl) dL_eldest_122 hJ
            · have hJ := hJf hc11; clear hJt hJf
              refine V_aload_n C dL_eldest_109 0 rfl ?_
              refine V_iload_n C dL_eldest_110 3 rfl ?_
              refine V_cVi (st := []) (ci := 5) C okX_0_0 ⟨Nat.zero_le _, Nat.zero_le _⟩ (M_X5_setRule l D tc ad A b3 hJ) (cwV 1 C.1.2.2.2.2 gL_eldest_X5_setRule rfl rfl rfl (by decide +kernel) ⟨Nat.le_of_ble_eq_true rfl, Nat.le_of_ble_eq_true rfl⟩) rfl rfl rfl rfl (Nat.le_of_ble_eq_true rfl) dL_eldest_111 (fun r12 τ12 hJ => ?_)
              obtain ⟨hJt, hJf⟩ := hJ
              refine V_if_ne C (tgt := 121) dL_eldest_114 rfl (fun hc13 => ?_) (fun hc13 => ?_)
              · have hJ := hJt hc13; clear hJt hJf
                refine V_iconst (v := 0) C dL_eldest_121 ci_0 ?_
                exact V_zret C hr hlocks (Or.inl rfl) dL_eldest_122 hJ
              · have hJ := hJf hc13; clear hJt hJf
                refine V_iconst (v := 1) C dL_eldest_117 ci_1 ?_
                refine V_goto C (tgt := 122) dL_eldest_118 rfl ?_
                exact V_zret C hr hlocks (Or.inr rfl) dL_eldest_122 hJ
        · have hJ := hJf hc8; clear hJt hJf
          refine V_iload C dL_eldest_49 5 rfl ?_
          obtain ⟨hJt, hJf⟩ := hJ
          refine V_if_eq C (tgt := 85) dL_eldest_51 rfl (fun hc14 => ?_) (fun hc14 => ?_)
          · have hJ := hJt hc14; clear hJt hJf
            refine V_iconst (v := 0) C dL_eldest_85 ci_0 ?_
            refine V_istore (lv' := [(5, .int 0), (0, .ref (ad (0, 0, 0))), (1, .ref (ad (18, 0, 0))), (2, .int b2), (3, .int b3), (4, .int b4), (6, .int x6_7)]) C dL_eldest_86 (by decide) rfl ?_
            obtain ⟨x6_15, hx6_15⟩ : ∃ y : Int32, y = x6_7 + 1 := ⟨_, rfl⟩
            replace hJ := hJ x6_15 hx6_15
            refine V_iinc (v := x6_15) (lv' := [(6, .int x6_15), (5, .int 0), (0, .ref (ad (0, 0, 0))), (1, .ref (ad (18, 0, 0))), (2, .int b2), (3, .int b3), (4, .int b4)]) C dL_eldest_88 6 rfl (by rw [hx6_15]; exact congrArg _ ci_1) (by decide) rfl ?_
            refine V_goto C (tgt := 41) dL_eldest_91 rfl ?_
            refine V_sub (lv' := [(0, .ref (ad (0, 0, 0))), (1, .ref (ad (18, 0, 0))), (2, .int b2), (3, .int b3), (4, .int b4), (5, .int 0), (6, .int x6_15)]) [2, 3, 4, 5, 6, 1, 0] rfl ?_
            exact ih41 0 x6_15 τ7 (Nat.lt_of_lt_of_le hJ.2 (Nat.le_of_lt_succ hμ41)) hJ.1
          · have hJ := hJf hc14; clear hJt hJf
            refine V_iload C dL_eldest_54 6 rfl ?_
            refine V_iload_n C dL_eldest_56 2 rfl ?_
            obtain ⟨hJt, hJf⟩ := hJ
            refine V_icmp_eq C (tgt := 81) dL_eldest_57 rfl (fun hc16 => ?_) (fun hc16 => ?_)
            · have hJ := hJt hc16; clear hJt hJf
              refine V_iconst (v := 1) C dL_eldest_81 ci_1 ?_
              refine V_goto C (tgt := 86) dL_eldest_82 rfl ?_
              refine V_istore (lv' := [(5, .int 1), (0, .ref (ad (0, 0, 0))), (1, .ref (ad (18, 0, 0))), (2, .int b2), (3, .int b3), (4, .int b4), (6, .int x6_7)]) C dL_eldest_86 (by decide) rfl ?_
              obtain ⟨x6_17, hx6_17⟩ : ∃ y : Int32, y = x6_7 + 1 := ⟨_, rfl⟩
              replace hJ := hJ x6_17 hx6_17
              refine V_iinc (v := x6_17) (lv' := [(6, .int x6_17), (5, .int 1), (0, .ref (ad (0, 0, 0))), (1, .ref (ad (18, 0, 0))), (2, .int b2), (3, .int b3), (4, .int b4)]) C dL_eldest_88 6 rfl (by rw [hx6_17]; exact congrArg _ ci_1) (by decide) rfl ?_
              refine V_goto C (tgt := 41) dL_eldest_91 rfl ?_
              refine V_sub (lv' := [(0, .ref (ad (0, 0, 0))), (1, .ref (ad (18, 0, 0))), (2, .int b2), (3, .int b3), (4, .int b4), (5, .int 1), (6, .int x6_17)]) [2, 3, 4, 5, 6, 1, 0] rfl ?_
              exact ih41 1 x6_17 τ7 (Nat.lt_of_lt_of_le hJ.2 (Nat.le_of_lt_succ hμ41)) hJ.1
            · have hJ := hJf hc16; clear hJt hJf
              refine V_aload_n C dL_eldest_60 0 rfl ?_
              refine V_iload_n C dL_eldest_61 2 rfl ?_
              refine V_iload C dL_eldest_62 6 rfl ?_
              refine V_cVi (st := []) (ci := 5) C okX_0_0 ⟨Nat.zero_le _, Nat.zero_le _⟩ (M_X5_gain l D tc ad A b2 x6_7 hJ) (cwV 2 C.1.2.2.2.2 gL_eldest_X5_gain rfl rfl rfl (by decide +kernel) ⟨Nat.le_of_ble_eq_true rfl, Nat.le_of_ble_eq_true rfl⟩) rfl rfl rfl rfl (Nat.le_of_ble_eq_true rfl) dL_eldest_64 (fun r18 τ18 hJ => ?_)
              obtain ⟨hJt, hJf⟩ := hJ
              refine V_if_ne C (tgt := 85) dL_eldest_67 rfl (fun hc19 => ?_) (fun hc19 => ?_)
              · have hJ := hJt hc19; clear hJt hJf
                refine V_iconst (v := 0) C dL_eldest_85 ci_0 ?_
                refine V_istore (lv' := [(5, .int 0), (0, .ref (ad (0, 0, 0))), (1, .ref (ad (18, 0, 0))), (2, .int b2), (3, .int b3), (4, .int b4), (6, .int x6_7)]) C dL_eldest_86 (by decide) rfl ?_
                obtain ⟨x6_20, hx6_20⟩ : ∃ y : Int32, y = x6_7 + 1 := ⟨_, rfl⟩
                replace hJ := hJ x6_20 hx6_20
                refine V_iinc (v := x6_20) (lv' := [(6, .int x6_20), (5, .int 0), (0, .ref (ad (0, 0, 0))), (1, .ref (ad (18, 0, 0))), (2, .int b2), (3, .int b3), (4, .int b4)]) C dL_eldest_88 6 rfl (by rw [hx6_20]; exact congrArg _ ci_1) (by decide) rfl ?_
                refine V_goto C (tgt := 41) dL_eldest_91 rfl ?_
                refine V_sub (lv' := [(0, .ref (ad (0, 0, 0))), (1, .ref (ad (18, 0, 0))), (2, .int b2), (3, .int b3), (4, .int b4), (5, .int 0), (6, .int x6_20)]) [2, 3, 4, 5, 6, 1, 0] rfl ?_
                exact ih41 0 x6_20 τ18 (Nat.lt_of_lt_of_le hJ.2 (Nat.le_of_lt_succ hμ41)) hJ.1
              · have hJ := hJf hc19; clear hJt hJf
                refine V_aload_n C dL_eldest_70 0 rfl ?_
                refine V_iload_n C dL_eldest_71 2 rfl ?_
                refine V_iload C dL_eldest_72 6 rfl ?_
                refine V_cVi (st := []) (ci := 5) C okX_0_0 ⟨Nat.zero_le _, Nat.zero_le _⟩ (M_X5_complaint l D tc ad A b2 x6_7 hJ) (cwV 2 C.1.2.2.2.2 gL_eldest_X5_complaint rfl rfl rfl (by decide +kernel) ⟨Nat.le_of_ble_eq_true rfl, Nat.le_of_ble_eq_true rfl⟩) rfl rfl rfl rfl (Nat.le_of_ble_eq_true rfl) dL_eldest_74 (fun r21 τ21 hJ => ?_)
                refine V_iconst (v := 2) C dL_eldest_77 ci_2 ?_
                obtain ⟨hJt, hJf⟩ := hJ
                refine V_icmp_eq C (tgt := 85) dL_eldest_78 rfl (fun hc22 => ?_) (fun hc22 => ?_)
                · have hJ := hJt hc22; clear hJt hJf
                  refine V_iconst (v := 0) C dL_eldest_85 ci_0 ?_
                  refine V_istore (lv' := [(5, .int 0), (0, .ref (ad (0, 0, 0))), (1, .ref (ad (18, 0, 0))), (2, .int b2), (3, .int b3), (4, .int b4), (6, .int x6_7)]) C dL_eldest_86 (by decide) rfl ?_
                  obtain ⟨x6_23, hx6_23⟩ : ∃ y : Int32, y = x6_7 + 1 := ⟨_, rfl⟩
                  replace hJ := hJ x6_23 hx6_23
                  refine V_iinc (v := x6_23) (lv' := [(6, .int x6_23), (5, .int 0), (0, .ref (ad (0, 0, 0))), (1, .ref (ad (18, 0, 0))), (2, .int b2), (3, .int b3), (4, .int b4)]) C dL_eldest_88 6 rfl (by rw [hx6_23]; exact congrArg _ ci_1) (by decide) rfl ?_
                  refine V_goto C (tgt := 41) dL_eldest_91 rfl ?_
                  refine V_sub (lv' := [(0, .ref (ad (0, 0, 0))), (1, .ref (ad (18, 0, 0))), (2, .int b2), (3, .int b3), (4, .int b4), (5, .int 0), (6, .int x6_23)]) [2, 3, 4, 5, 6, 1, 0] rfl ?_
                  exact ih41 0 x6_23 τ21 (Nat.lt_of_lt_of_le hJ.2 (Nat.le_of_lt_succ hμ41)) hJ.1
                · have hJ := hJf hc22; clear hJt hJf
                  refine V_iconst (v := 1) C dL_eldest_81 ci_1 ?_
                  refine V_goto C (tgt := 86) dL_eldest_82 rfl ?_
                  refine V_istore (lv' := [(5, .int 1), (0, .ref (ad (0, 0, 0))), (1, .ref (ad (18, 0, 0))), (2, .int b2), (3, .int b3), (4, .int b4), (6, .int x6_7)]) C dL_eldest_86 (by decide) rfl ?_
                  obtain ⟨x6_24, hx6_24⟩ : ∃ y : Int32, y = x6_7 + 1 := ⟨_, rfl⟩
                  replace hJ := hJ x6_24 hx6_24
                  refine V_iinc (v := x6_24) (lv' := [(6, .int x6_24), (5, .int 1), (0, .ref (ad (0, 0, 0))), (1, .ref (ad (18, 0, 0))), (2, .int b2), (3, .int b3), (4, .int b4)]) C dL_eldest_88 6 rfl (by rw [hx6_24]; exact congrArg _ ci_1) (by decide) rfl ?_
                  refine V_goto C (tgt := 41) dL_eldest_91 rfl ?_
                  refine V_sub (lv' := [(0, .ref (ad (0, 0, 0))), (1, .ref (ad (18, 0, 0))), (2, .int b2), (3, .int b3), (4, .int b4), (5, .int 1), (6, .int x6_24)]) [2, 3, 4, 5, 6, 1, 0] rfl ?_
                  exact ih41 1 x6_24 τ21 (Nat.lt_of_lt_of_le hJ.2 (Nat.le_of_lt_succ hμ41)) hJ.1
    exact L41 _ t0 0 τ (Nat.lt_succ_self _) hI41
  unfold J_L_eldest at hJ
  refine V_aload_n C dL_eldest_0 0 rfl ?_
  refine V_iconst (v := 0) C dL_eldest_1 ci_0 ?_
  refine V_cVi (st := []) (ci := 5) C okX_0_0 ⟨Nat.zero_le _, Nat.zero_le _⟩ (M_X5_userByAge l D tc ad A 0 hJ) (cwV 1 C.1.2.2.2.2 gL_eldest_X5_userByAge rfl rfl rfl (by decide +kernel) ⟨Nat.le_of_ble_eq_true rfl, Nat.le_of_ble_eq_true rfl⟩) rfl rfl rfl rfl (Nat.le_of_ble_eq_true rfl) dL_eldest_2 (fun r1 τ1 hJ => ?_)
  refine V_istore_n (lv' := [(2, .int r1), (0, .ref (ad (0, 0, 0))), (1, .ref (ad (18, 0, 0)))]) C dL_eldest_5 (by decide) rfl ?_
  refine V_aload_n C dL_eldest_6 1 rfl ?_
  refine V_iconst (v := 0) C dL_eldest_7 ci_0 ?_
  refine V_cVi (st := []) (ci := 5) C okX_0_0 ⟨Nat.zero_le _, Nat.zero_le _⟩ (M_X5_setRule l D tc ad A 0 hJ) (cwV 1 C.1.2.2.2.2 gL_eldest_X5_setRule rfl rfl rfl (by decide +kernel) ⟨Nat.le_of_ble_eq_true rfl, Nat.le_of_ble_eq_true rfl⟩) rfl rfl rfl rfl (Nat.le_of_ble_eq_true rfl) dL_eldest_8 (fun r2 τ2 hJ => ?_)
  refine V_istore_n (lv' := [(3, .int r2), (2, .int r1), (0, .ref (ad (0, 0, 0))), (1, .ref (ad (18, 0, 0)))]) C dL_eldest_11 (by decide) rfl ?_
  refine V_aload_n C dL_eldest_12 2 rfl ?_
  refine V_iload_n C dL_eldest_13 1 rfl ?_
  refine V_cVi (st := []) (ci := 5) C okX_0_0 ⟨Nat.zero_le _, Nat.zero_le _⟩ (M_X5_gets l D tc ad A r1 hJ) (cwV 1 C.1.2.2.2.2 gL_eldest_X5_gets rfl rfl rfl (by decide +kernel) ⟨Nat.le_of_ble_eq_true rfl, Nat.le_of_ble_eq_true rfl⟩) rfl rfl rfl rfl (Nat.le_of_ble_eq_true rfl) dL_eldest_14 (fun r3 τ3 hJ => ?_)
  refine V_istore (lv' := [(4, .int r3), (3, .int r2), (2, .int r1), (0, .ref (ad (0, 0, 0))), (1, .ref (ad (18, 0, 0)))]) C dL_eldest_17 (by decide) rfl ?_
  refine V_aload_n C dL_eldest_19 3 rfl ?_
  refine V_iconst (v := 1) C dL_eldest_20 ci_1 ?_
  refine V_cVi (st := []) (ci := 5) C okX_0_0 ⟨Nat.zero_le _, Nat.zero_le _⟩ (M_X5_save l D tc ad A 1 hJ) (cwV 1 C.1.2.2.2.2 gL_eldest_X5_save rfl rfl rfl (by decide +kernel) ⟨Nat.le_of_ble_eq_true rfl, Nat.le_of_ble_eq_true rfl⟩) rfl rfl rfl rfl (Nat.le_of_ble_eq_true rfl) dL_eldest_21 (fun r4 τ4 hJ => ?_)
  refine V_aload_n C dL_eldest_24 3 rfl ?_
  refine V_cVi (st := [.int r4]) (ci := 5) C okX_0_0 ⟨Nat.zero_le _, Nat.zero_le _⟩ (M_X5_time l D tc ad A  hJ) (cwV 0 C.1.2.2.2.2 gL_eldest_X5_time rfl rfl rfl (by decide +kernel) ⟨Nat.le_of_ble_eq_true rfl, Nat.le_of_ble_eq_true rfl⟩) rfl rfl rfl rfl (Nat.le_of_ble_eq_true rfl) dL_eldest_25 (fun r5 τ5 hJ => ?_)
  obtain ⟨hJt, hJf⟩ := hJ
  refine V_icmp_ne C (tgt := 35) dL_eldest_28 rfl (fun hc6 => ?_) (fun hc6 => ?_)
  · have hJ := hJt hc6; clear hJt hJf
    refine V_iconst (v := 0) C dL_eldest_35 ci_0 ?_
    refine V_sub (lv' := [(0, .ref (ad (0, 0, 0))), (1, .ref (ad (18, 0, 0))), (2, .int r1), (3, .int r2), (4, .int r3)]) [3, 4, 2, 1, 0] rfl ?_
    exact B36 r1 r2 r3 0 τ5 hJ
  · have hJ := hJf hc6; clear hJt hJf
    refine V_iconst (v := 1) C dL_eldest_31 ci_1 ?_
    refine V_goto C (tgt := 36) dL_eldest_32 rfl ?_
    refine V_sub (lv' := [(0, .ref (ad (0, 0, 0))), (1, .ref (ad (18, 0, 0))), (2, .int r1), (3, .int r2), (4, .int r3)]) [3, 4, 2, 1, 0] rfl ?_
    exact B36 r1 r2 r3 1 τ5 hJ
