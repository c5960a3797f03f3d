/-! PART 62 (written by wip/p41/gen04.py): the law, from its first call on -/
set_option maxHeartbeats 4000000 in
set_option maxRecDepth 100000 in
theorem M_L_law {p : Program} {e : Env} {s : State} {m : MethodId} {below : List Frame} {meth : Method} {c : Code} {Q : State → Prop} {kn : Nat × Nat} (l : Launch) (D : va_G) (tc : Nat → ClassId) (ad : Oid → Nat) (A : Nat → Prop) (L : Nat) (xs : Nat → Int32) (b : Nat) (C : CX p s m #[Value.ref b] c D vwCl (tysX tc) NX cL_law 12 RL lw_tbl) (hX : va_X b L xs s s.heap) (hbl : b < s.heap.size) (hbA : ¬ A b) (hR : kn.1 ≤ room_1.cells ∧ kn.2 ≤ room_1.slots) {σ : Mem} {Qr : Int32 → Mem → Prop} (hE : ∀ (r : Int32) (τ : Mem), Qr r τ → VV p l e room_1 s m #[Value.ref b] below meth c D vwCl idsX ad (ceX tc ad) A Q 12 kn 433 [] [.int r] τ) (hJ : J_L_law L xs σ Qr) : VV p l e room_1 s m #[Value.ref b] below meth c D vwCl idsX ad (ceX tc ad) A Q 12 kn 23 [(4, .ref (ad (18, 0, 0))), (3, .ref (ad (17, 0, 0))), (2, .ref (ad (16, 0, 0))), (1, .ref (ad (0, 0, 0))), (0, .ref b)] [] σ := by
  have B411 : ∀ (c10 : Int64) (t0 : Int32) (τ : Mem), J_L_law_b411 L xs  c10 t0 τ Qr → VV p l e room_1 s m #[Value.ref b] below meth c D vwCl idsX ad (ceX tc ad) A Q 12 kn 411 [(1, .ref (ad (0, 0, 0))), (10, .long c10)] [.int t0] τ := by
    intro c10 t0 τ hJ
    unfold J_L_law_b411 at hJ
    refine V_istore (lv' := [(5, .int t0), (1, .ref (ad (0, 0, 0))), (10, .long c10)]) C dL_law_411 (by decide) rfl ?_
    refine V_iload C dL_law_413 0 rfl ?_
    obtain ⟨hJt, hJf⟩ := hJ
    refine V_if_eq C (tgt := 432) dL_law_415 rfl (fun hc12 => ?_) (fun hc12 => ?_)
    · have hJ := hJt hc12; clear hJt hJf
      refine V_iconst (v := 0) C dL_law_432 ci_0 ?_
      refine V_sub (lv' := []) [] rfl (hE _ _ hJ)
    · have hJ := hJf hc12; clear hJt hJf
      refine V_aload_n C dL_law_418 1 rfl ?_
      refine V_cVl (st := []) (ci := 5) C okX_0_0 hR (M_X5_checksum l D tc ad A  hJ) (cwV 0 C.1.2.2.2.2 gT_X5_checksum rfl rfl rfl (by decide +kernel) ⟨Nat.le_of_ble_eq_true rfl, Nat.le_of_ble_eq_true rfl⟩) rfl rfl rfl rfl (Nat.le_of_ble_eq_true rfl) dL_law_419 (fun r13 τ13 hJ => ?_)
      refine V_lload C dL_law_422 2 rfl ?_
      refine V_lcmp C dL_law_424 ?_
      obtain ⟨hJt, hJf⟩ := hJ
      refine V_if_ne C (tgt := 432) dL_law_425 rfl (fun hc14 => ?_) (fun hc14 => ?_)
      · have hJ := hJt hc14; clear hJt hJf
        refine V_iconst (v := 0) C dL_law_432 ci_0 ?_
        refine V_sub (lv' := []) [] rfl (hE _ _ hJ)
      · have hJ := hJf hc14; clear hJt hJf
        refine V_iconst (v := 1) C dL_law_428 ci_1 ?_
        refine V_goto C (tgt := 433) dL_law_429 rfl ?_
        refine V_sub (lv' := []) [] rfl (hE _ _ hJ)
  have B335 : ∀ (t0 : Int32) (τ : Mem), J_L_law_b335 L xs  t0 τ Qr → VV p l e room_1 s m #[Value.ref b] below meth c D vwCl idsX ad (ceX tc ad) A Q 12 kn 335 [(1, .ref (ad (0, 0, 0))), (2, .ref (ad (16, 0, 0))), (3, .ref (ad (17, 0, 0))), (4, .ref (ad (18, 0, 0)))] [.int t0] τ := by
    intro t0 τ hJ
    unfold J_L_law_b335 at hJ
    refine V_istore (lv' := [(5, .int t0), (1, .ref (ad (0, 0, 0))), (2, .ref (ad (16, 0, 0))), (3, .ref (ad (17, 0, 0))), (4, .ref (ad (18, 0, 0)))]) C dL_law_335 (by decide) rfl ?_
    refine V_aload_n C dL_law_337 1 rfl ?_
    refine V_cVl (st := []) (ci := 5) C okX_0_0 hR (M_X5_checksum l D tc ad A  hJ) (cwV 0 C.1.2.2.2.2 gT_X5_checksum rfl rfl rfl (by decide +kernel) ⟨Nat.le_of_ble_eq_true rfl, Nat.le_of_ble_eq_true rfl⟩) rfl rfl rfl rfl (Nat.le_of_ble_eq_true rfl) dL_law_338 (fun r10 τ10 hJ => ?_)
    refine V_lstore (lv' := [(10, .long r10), (5, .int t0), (1, .ref (ad (0, 0, 0))), (2, .ref (ad (16, 0, 0))), (3, .ref (ad (17, 0, 0))), (4, .ref (ad (18, 0, 0)))]) C dL_law_341 (by decide) rfl ?_
    refine V_iload C dL_law_343 1 rfl ?_
    obtain ⟨hJt, hJf⟩ := hJ
    refine V_if_eq C (tgt := 410) dL_law_345 rfl (fun hc11 => ?_) (fun hc11 => ?_)
    · have hJ := hJt hc11; clear hJt hJf
      refine V_iconst (v := 0) C dL_law_410 ci_0 ?_
      refine V_sub (lv' := [(1, .ref (ad (0, 0, 0))), (10, .long r10)]) [2, 0] rfl ?_
      exact B411 r10 0 τ10 hJ
    · have hJ := hJf hc11; clear hJt hJf
      refine V_aload_n C dL_law_348 2 rfl ?_
      refine V_iconst (v := 0) C dL_law_349 ci_0 ?_
      refine V_cVi (st := []) (ci := 5) C okX_0_0 hR (M_X5_save l D tc ad A 0 hJ) (cwV 1 C.1.2.2.2.2 gT_X5_save rfl rfl rfl (by decide +kernel) ⟨Nat.le_of_ble_eq_true rfl, Nat.le_of_ble_eq_true rfl⟩) rfl rfl rfl rfl (Nat.le_of_ble_eq_true rfl) dL_law_350 (fun r15 τ15 hJ => ?_)
      refine V_bipush (v := 8) C dL_law_353 cb_8 ?_
      obtain ⟨hJt, hJf⟩ := hJ
      refine V_icmp_ne C (tgt := 410) dL_law_355 rfl (fun hc16 => ?_) (fun hc16 => ?_)
      · have hJ := hJt hc16; clear hJt hJf
        refine V_iconst (v := 0) C dL_law_410 ci_0 ?_
        refine V_sub (lv' := [(1, .ref (ad (0, 0, 0))), (10, .long r10)]) [2, 0] rfl ?_
        exact B411 r10 0 τ15 hJ
      · have hJ := hJf hc16; clear hJt hJf
        refine V_aload_n C dL_law_358 2 rfl ?_
        refine V_iconst (v := 5) C dL_law_359 ci_5 ?_
        refine V_cVi (st := []) (ci := 5) C okX_0_0 hR (M_X5_advance l D tc ad A 5 hJ) (cwV 1 C.1.2.2.2.2 gT_X5_advance rfl rfl rfl (by decide +kernel) ⟨Nat.le_of_ble_eq_true rfl, Nat.le_of_ble_eq_true rfl⟩) rfl rfl rfl rfl (Nat.le_of_ble_eq_true rfl) dL_law_360 (fun r17 τ17 hJ => ?_)
        obtain ⟨hJt, hJf⟩ := hJ
        refine V_if_lt C (tgt := 410) dL_law_363 rfl (fun hc18 => ?_) (fun hc18 => ?_)
        · have hJ := hJt hc18; clear hJt hJf
          refine V_iconst (v := 0) C dL_law_410 ci_0 ?_
          refine V_sub (lv' := [(1, .ref (ad (0, 0, 0))), (10, .long r10)]) [2, 0] rfl ?_
          exact B411 r10 0 τ17 hJ
        · have hJ := hJf hc18; clear hJt hJf
          refine V_aload_n C dL_law_366 2 rfl ?_
          refine V_aload_n C dL_law_367 3 rfl ?_
          refine V_aload_n C dL_law_368 4 rfl ?_
          refine V_aload C dL_law_369 5 rfl ?_
          refine V_cSi (st := []) C hR (M_L_sound l D tc ad A  hJ) (va_cwS 4 C.1.2.2.2.2 gT_L_sound rfl rfl rfl (by decide +kernel) ⟨Nat.le_of_ble_eq_true rfl, Nat.le_of_ble_eq_true rfl⟩) rfl rfl (Nat.le_of_ble_eq_true rfl) dL_law_371 (fun r19 τ19 hJ => ?_)
          obtain ⟨hJt, hJf⟩ := hJ
          refine V_if_eq C (tgt := 410) dL_law_374 rfl (fun hc20 => ?_) (fun hc20 => ?_)
          · have hJ := hJt hc20; clear hJt hJf
            refine V_iconst (v := 0) C dL_law_410 ci_0 ?_
            refine V_sub (lv' := [(1, .ref (ad (0, 0, 0))), (10, .long r10)]) [2, 0] rfl ?_
            exact B411 r10 0 τ19 hJ
          · have hJ := hJf hc20; clear hJt hJf
            refine V_aload_n C dL_law_377 2 rfl ?_
            refine V_iconst (v := 0) C dL_law_378 ci_0 ?_
            refine V_cVi (st := []) (ci := 5) C okX_0_0 hR (M_X5_account l D tc ad A 0 hJ) (cwV 1 C.1.2.2.2.2 gT_X5_account rfl rfl rfl (by decide +kernel) ⟨Nat.le_of_ble_eq_true rfl, Nat.le_of_ble_eq_true rfl⟩) rfl rfl rfl rfl (Nat.le_of_ble_eq_true rfl) dL_law_379 (fun r21 τ21 hJ => ?_)
            refine V_aload_n C dL_law_382 2 rfl ?_
            refine V_iconst (v := 2) C dL_law_383 ci_2 ?_
            refine V_cVi (st := [.int r21]) (ci := 5) C okX_0_0 hR (M_X5_account l D tc ad A 2 hJ) (cwV 1 C.1.2.2.2.2 gT_X5_account rfl rfl rfl (by decide +kernel) ⟨Nat.le_of_ble_eq_true rfl, Nat.le_of_ble_eq_true rfl⟩) rfl rfl rfl rfl (Nat.le_of_ble_eq_true rfl) dL_law_384 (fun r22 τ22 hJ => ?_)
            refine V_aload_n C dL_law_387 2 rfl ?_
            refine V_iconst (v := 3) C dL_law_388 ci_3 ?_
            refine V_cVi (st := [.int r22, .int r21]) (ci := 5) C okX_0_0 hR (M_X5_account l D tc ad A 3 hJ) (cwV 1 C.1.2.2.2.2 gT_X5_account rfl rfl rfl (by decide +kernel) ⟨Nat.le_of_ble_eq_true rfl, Nat.le_of_ble_eq_true rfl⟩) rfl rfl rfl rfl (Nat.le_of_ble_eq_true rfl) dL_law_389 (fun r23 τ23 hJ => ?_)
            refine V_iadd C dL_law_392 ?_
            obtain ⟨hJt, hJf⟩ := hJ
            refine V_icmp_ne C (tgt := 410) dL_law_393 rfl (fun hc24 => ?_) (fun hc24 => ?_)
            · have hJ := hJt hc24; clear hJt hJf
              refine V_iconst (v := 0) C dL_law_410 ci_0 ?_
              refine V_sub (lv' := [(1, .ref (ad (0, 0, 0))), (10, .long r10)]) [2, 0] rfl ?_
              exact B411 r10 0 τ23 hJ
            · have hJ := hJf hc24; clear hJt hJf
              refine V_aload_n C dL_law_396 2 rfl ?_
              refine V_iconst (v := 0) C dL_law_397 ci_0 ?_
              refine V_cVi (st := []) (ci := 5) C okX_0_0 hR (M_X5_restore l D tc ad A 0 hJ) (cwV 1 C.1.2.2.2.2 gT_X5_restore rfl rfl rfl (by decide +kernel) ⟨Nat.le_of_ble_eq_true rfl, Nat.le_of_ble_eq_true rfl⟩) rfl rfl rfl rfl (Nat.le_of_ble_eq_true rfl) dL_law_398 (fun r25 τ25 hJ => ?_)
              refine V_bipush (v := 8) C dL_law_401 cb_8 ?_
              obtain ⟨hJt, hJf⟩ := hJ
              refine V_icmp_ne C (tgt := 410) dL_law_403 rfl (fun hc26 => ?_) (fun hc26 => ?_)
              · have hJ := hJt hc26; clear hJt hJf
                refine V_iconst (v := 0) C dL_law_410 ci_0 ?_
                refine V_sub (lv' := [(1, .ref (ad (0, 0, 0))), (10, .long r10)]) [2, 0] rfl ?_
                exact B411 r10 0 τ25 hJ
              · have hJ := hJf hc26; clear hJt hJf
                refine V_iconst (v := 1) C dL_law_406 ci_1 ?_
                refine V_goto C (tgt := 411) dL_law_407 rfl ?_
                refine V_sub (lv' := [(1, .ref (ad (0, 0, 0))), (10, .long r10)]) [2, 0] rfl ?_
                exact B411 r10 1 τ25 hJ
  have B289 : ∀ (b5 : Int32) (b8 : Int32) (τ : Mem), J_L_law_b289 L xs  b5 b8 τ Qr → VV p l e room_1 s m #[Value.ref b] below meth c D vwCl idsX ad (ceX tc ad) A Q 12 kn 289 [(1, .ref (ad (0, 0, 0))), (2, .ref (ad (16, 0, 0))), (3, .ref (ad (17, 0, 0))), (4, .ref (ad (18, 0, 0))), (5, .int b5), (8, .int b8)] [] τ := by
    intro b5 b8 τ hJ
    unfold J_L_law_b289 at hJ
    refine V_iload C dL_law_289 4 rfl ?_
    obtain ⟨hJt, hJf⟩ := hJ
    refine V_if_eq C (tgt := 334) dL_law_291 rfl (fun hc9 => ?_) (fun hc9 => ?_)
    · have hJ := hJt hc9; clear hJt hJf
      refine V_iconst (v := 0) C dL_law_334 ci_0 ?_
      refine V_sub (lv' := [(1, .ref (ad (0, 0, 0))), (2, .ref (ad (16, 0, 0))), (3, .ref (ad (17, 0, 0))), (4, .ref (ad (18, 0, 0)))]) [0, 1, 2, 3] rfl ?_
      exact B335 0 τ hJ
    · have hJ := hJf hc9; clear hJt hJf
      refine V_aload_n C dL_law_294 0 rfl ?_
      refine V_iconst (v := 2) C dL_law_295 ci_2 ?_
      refine V_cVi (st := []) (ci := 5) C okX_0_0 hR (M_X5_setRule l D tc ad A 2 hJ) (cwV 1 C.1.2.2.2.2 gT_X5_setRule rfl rfl rfl (by decide +kernel) ⟨Nat.le_of_ble_eq_true rfl, Nat.le_of_ble_eq_true rfl⟩) rfl rfl rfl rfl (Nat.le_of_ble_eq_true rfl) dL_law_296 (fun r27 τ27 hJ => ?_)
      refine V_iconst (v := 1) C dL_law_299 ci_1 ?_
      obtain ⟨hJt, hJf⟩ := hJ
      refine V_icmp_ne C (tgt := 334) dL_law_300 rfl (fun hc28 => ?_) (fun hc28 => ?_)
      · have hJ := hJt hc28; clear hJt hJf
        refine V_iconst (v := 0) C dL_law_334 ci_0 ?_
        refine V_sub (lv' := [(1, .ref (ad (0, 0, 0))), (2, .ref (ad (16, 0, 0))), (3, .ref (ad (17, 0, 0))), (4, .ref (ad (18, 0, 0)))]) [0, 1, 2, 3] rfl ?_
        exact B335 0 τ27 hJ
      · have hJ := hJf hc28; clear hJt hJf
        refine V_aload_n C dL_law_303 0 rfl ?_
        refine V_aload_n C dL_law_304 1 rfl ?_
        refine V_aload_n C dL_law_305 2 rfl ?_
        refine V_aload C dL_law_306 3 rfl ?_
        refine V_cSi (st := []) C hR (M_L_sound l D tc ad A  hJ) (va_cwS 4 C.1.2.2.2.2 gT_L_sound rfl rfl rfl (by decide +kernel) ⟨Nat.le_of_ble_eq_true rfl, Nat.le_of_ble_eq_true rfl⟩) rfl rfl (Nat.le_of_ble_eq_true rfl) dL_law_308 (fun r29 τ29 hJ => ?_)
        obtain ⟨hJt, hJf⟩ := hJ
        refine V_if_eq C (tgt := 334) dL_law_311 rfl (fun hc30 => ?_) (fun hc30 => ?_)
        · have hJ := hJt hc30; clear hJt hJf
          refine V_iconst (v := 0) C dL_law_334 ci_0 ?_
          refine V_sub (lv' := [(1, .ref (ad (0, 0, 0))), (2, .ref (ad (16, 0, 0))), (3, .ref (ad (17, 0, 0))), (4, .ref (ad (18, 0, 0)))]) [0, 1, 2, 3] rfl ?_
          exact B335 0 τ29 hJ
        · have hJ := hJf hc30; clear hJt hJf
          refine V_aload_n C dL_law_314 0 rfl ?_
          refine V_cVi (st := []) (ci := 5) C okX_0_0 hR (M_X5_settle l D tc ad A  hJ) (cwV 0 C.1.2.2.2.2 gT_X5_settle rfl rfl rfl (by decide +kernel) ⟨Nat.le_of_ble_eq_true rfl, Nat.le_of_ble_eq_true rfl⟩) rfl rfl rfl rfl (Nat.le_of_ble_eq_true rfl) dL_law_315 (fun r31 τ31 hJ => ?_)
          obtain ⟨hJt, hJf⟩ := hJ
          refine V_if_lt C (tgt := 334) dL_law_318 rfl (fun hc32 => ?_) (fun hc32 => ?_)
          · have hJ := hJt hc32; clear hJt hJf
            refine V_iconst (v := 0) C dL_law_334 ci_0 ?_
            refine V_sub (lv' := [(1, .ref (ad (0, 0, 0))), (2, .ref (ad (16, 0, 0))), (3, .ref (ad (17, 0, 0))), (4, .ref (ad (18, 0, 0)))]) [0, 1, 2, 3] rfl ?_
            exact B335 0 τ31 hJ
          · have hJ := hJf hc32; clear hJt hJf
            refine V_iload C dL_law_321 5 rfl ?_
            refine V_aload C dL_law_323 3 rfl ?_
            refine V_iconst (v := 3) C dL_law_325 ci_3 ?_
            refine V_iald C okX_18_0 0 rfl rfl ix_3 vpc_3_4 dL_law_326 ?_
            obtain ⟨hJt, hJf⟩ := hJ
            refine V_icmp_ne C (tgt := 334) dL_law_327 rfl (fun hc33 => ?_) (fun hc33 => ?_)
            · have hJ := hJt hc33; clear hJt hJf
              refine V_iconst (v := 0) C dL_law_334 ci_0 ?_
              refine V_sub (lv' := [(1, .ref (ad (0, 0, 0))), (2, .ref (ad (16, 0, 0))), (3, .ref (ad (17, 0, 0))), (4, .ref (ad (18, 0, 0)))]) [0, 1, 2, 3] rfl ?_
              exact B335 0 τ31 hJ
            · have hJ := hJf hc33; clear hJt hJf
              refine V_iconst (v := 1) C dL_law_330 ci_1 ?_
              refine V_goto C (tgt := 335) dL_law_331 rfl ?_
              refine V_sub (lv' := [(1, .ref (ad (0, 0, 0))), (2, .ref (ad (16, 0, 0))), (3, .ref (ad (17, 0, 0))), (4, .ref (ad (18, 0, 0)))]) [0, 1, 2, 3] rfl ?_
              exact B335 1 τ31 hJ
  have B161 : ∀ (b5 : Int32) (b7 : Int32) (τ : Mem), J_L_law_b161 L xs  b5 b7 τ Qr → VV p l e room_1 s m #[Value.ref b] below meth c D vwCl idsX ad (ceX tc ad) A Q 12 kn 161 [(1, .ref (ad (0, 0, 0))), (2, .ref (ad (16, 0, 0))), (3, .ref (ad (17, 0, 0))), (4, .ref (ad (18, 0, 0))), (5, .int b5), (7, .int b7)] [] τ := by
    intro b5 b7 τ hJ
    unfold J_L_law_b161 at hJ
    refine V_aload_n C dL_law_161 0 rfl ?_
    refine V_iconst (v := 1) C dL_law_162 ci_1 ?_
    refine V_cVi (st := []) (ci := 5) C okX_0_0 hR (M_X5_setRule l D tc ad A 1 hJ) (cwV 1 C.1.2.2.2.2 gT_X5_setRule rfl rfl rfl (by decide +kernel) ⟨Nat.le_of_ble_eq_true rfl, Nat.le_of_ble_eq_true rfl⟩) rfl rfl rfl rfl (Nat.le_of_ble_eq_true rfl) dL_law_163 (fun r6 τ6 hJ => ?_)
    refine V_istore (lv' := [(8, .int r6), (1, .ref (ad (0, 0, 0))), (2, .ref (ad (16, 0, 0))), (3, .ref (ad (17, 0, 0))), (4, .ref (ad (18, 0, 0))), (5, .int b5), (7, .int b7)]) C dL_law_166 (by decide) rfl ?_
    refine V_iconst (v := (-1)) C dL_law_168 ci_m1 ?_
    refine V_istore (lv' := [(9, .int (-1)), (8, .int r6), (1, .ref (ad (0, 0, 0))), (2, .ref (ad (16, 0, 0))), (3, .ref (ad (17, 0, 0))), (4, .ref (ad (18, 0, 0))), (5, .int b5), (7, .int b7)]) C dL_law_169 (by decide) rfl ?_
    refine V_iconst (v := 0) C dL_law_171 ci_0 ?_
    refine V_istore (lv' := [(10, .int 0), (9, .int (-1)), (8, .int r6), (1, .ref (ad (0, 0, 0))), (2, .ref (ad (16, 0, 0))), (3, .ref (ad (17, 0, 0))), (4, .ref (ad (18, 0, 0))), (5, .int b5), (7, .int b7)]) C dL_law_172 (by decide) rfl ?_
    refine V_sub (lv' := [(1, .ref (ad (0, 0, 0))), (2, .ref (ad (16, 0, 0))), (3, .ref (ad (17, 0, 0))), (4, .ref (ad (18, 0, 0))), (5, .int b5), (7, .int b7), (8, .int r6), (9, .int (-1)), (10, .int 0)]) [3, 4, 5, 6, 7, 8, 2, 1, 0] rfl ?_
    obtain ⟨I174, μ174, hI174, hst174⟩ := hJ
    have L174 : ∀ (n : Nat) (x5_7 : Int32) (x9_7 : Int32) (x10_7 : Int32) (τ7 : Mem), μ174 x5_7 x9_7 x10_7 τ7 < n → I174 x5_7 x9_7 x10_7 τ7 → VV p l e room_1 s m #[Value.ref b] below meth c D vwCl idsX ad (ceX tc ad) A Q 12 kn 174 [(1, .ref (ad (0, 0, 0))), (2, .ref (ad (16, 0, 0))), (3, .ref (ad (17, 0, 0))), (4, .ref (ad (18, 0, 0))), (5, .int x5_7), (7, .int b7), (8, .int r6), (9, .int x9_7), (10, .int x10_7)] [] τ7 := by
      intro n
      induction n with
      | zero => intro x5_7 x9_7 x10_7 τ7 hμ _; exact absurd hμ (Nat.not_lt_zero _)
      | succ n ihn =>
        intro x5_7 x9_7 x10_7 τ7 hμ174 hJ
        have ih174 := ihn
        replace hJ := hst174 x5_7 x9_7 x10_7 τ7 hJ
        have B253 : ∀ (b10 : Int32) (b11 : Int32) (τ : Mem), J_L_law_b253 L xs b7 r6 (fun z0 z1 z2 z3 => I174 z0 z1 z2 z3 ∧ μ174 z0 z1 z2 z3 < μ174 x5_7 x9_7 x10_7 τ7) b10 b11 τ Qr → VV p l e room_1 s m #[Value.ref b] below meth c D vwCl idsX ad (ceX tc ad) A Q 12 kn 253 [(1, .ref (ad (0, 0, 0))), (2, .ref (ad (16, 0, 0))), (3, .ref (ad (17, 0, 0))), (4, .ref (ad (18, 0, 0))), (7, .int b7), (8, .int r6), (10, .int b10), (11, .int b11)] [] τ := by
          intro b10 b11 τ hJ
          unfold J_L_law_b253 at hJ
          refine V_aload_n C dL_law_253 0 rfl ?_
          refine V_iconst (v := 1) C dL_law_254 ci_1 ?_
          refine V_cVi (st := []) (ci := 5) C okX_0_0 hR (M_X5_advance l D tc ad A 1 hJ) (cwV 1 C.1.2.2.2.2 gT_X5_advance rfl rfl rfl (by decide +kernel) ⟨Nat.le_of_ble_eq_true rfl, Nat.le_of_ble_eq_true rfl⟩) rfl rfl rfl rfl (Nat.le_of_ble_eq_true rfl) dL_law_255 (fun r45 τ45 hJ => ?_)
          obtain ⟨hJt, hJf⟩ := hJ
          refine V_if_lt C (tgt := 276) dL_law_258 rfl (fun hc46 => ?_) (fun hc46 => ?_)
          · have hJ := hJt hc46; clear hJt hJf
            refine V_iconst (v := 0) C dL_law_276 ci_0 ?_
            refine V_istore (lv' := [(5, .int 0), (1, .ref (ad (0, 0, 0))), (2, .ref (ad (16, 0, 0))), (3, .ref (ad (17, 0, 0))), (4, .ref (ad (18, 0, 0))), (7, .int b7), (8, .int r6), (10, .int b10), (11, .int b11)]) C dL_law_277 (by decide) rfl ?_
            refine V_iload C dL_law_279 8 rfl ?_
            refine V_istore (lv' := [(9, .int b11), (5, .int 0), (1, .ref (ad (0, 0, 0))), (2, .ref (ad (16, 0, 0))), (3, .ref (ad (17, 0, 0))), (4, .ref (ad (18, 0, 0))), (7, .int b7), (8, .int r6), (10, .int b10), (11, .int b11)]) C dL_law_281 (by decide) rfl ?_
            obtain ⟨x10_47, hx10_47⟩ : ∃ y : Int32, y = b10 + 1 := ⟨_, rfl⟩
            replace hJ := hJ x10_47 hx10_47
            refine V_iinc (v := x10_47) (lv' := [(10, .int x10_47), (9, .int b11), (5, .int 0), (1, .ref (ad (0, 0, 0))), (2, .ref (ad (16, 0, 0))), (3, .ref (ad (17, 0, 0))), (4, .ref (ad (18, 0, 0))), (7, .int b7), (8, .int r6), (11, .int b11)]) C dL_law_283 8 rfl (by rw [hx10_47]; exact congrArg _ ci_1) (by decide) rfl ?_
            refine V_goto C (tgt := 174) dL_law_286 rfl ?_
            refine V_sub (lv' := [(1, .ref (ad (0, 0, 0))), (2, .ref (ad (16, 0, 0))), (3, .ref (ad (17, 0, 0))), (4, .ref (ad (18, 0, 0))), (5, .int 0), (7, .int b7), (8, .int r6), (9, .int b11), (10, .int x10_47)]) [3, 4, 5, 6, 2, 7, 8, 1, 0] rfl ?_
            exact ih174 0 b11 x10_47 τ45 (Nat.lt_of_lt_of_le hJ.2 (Nat.le_of_lt_succ hμ174)) hJ.1
          · have hJ := hJf hc46; clear hJt hJf
            refine V_aload_n C dL_law_261 0 rfl ?_
            refine V_cVi (st := []) (ci := 5) C okX_0_0 hR (M_X5_time l D tc ad A  hJ) (cwV 0 C.1.2.2.2.2 gT_X5_time rfl rfl rfl (by decide +kernel) ⟨Nat.le_of_ble_eq_true rfl, Nat.le_of_ble_eq_true rfl⟩) rfl rfl rfl rfl (Nat.le_of_ble_eq_true rfl) dL_law_262 (fun r48 τ48 hJ => ?_)
            refine V_iload C dL_law_265 6 rfl ?_
            refine V_iconst (v := 1) C dL_law_267 ci_1 ?_
            refine V_iadd C dL_law_268 ?_
            obtain ⟨hJt, hJf⟩ := hJ
            refine V_icmp_ne C (tgt := 276) dL_law_269 rfl (fun hc49 => ?_) (fun hc49 => ?_)
            · have hJ := hJt hc49; clear hJt hJf
              refine V_iconst (v := 0) C dL_law_276 ci_0 ?_
              refine V_istore (lv' := [(5, .int 0), (1, .ref (ad (0, 0, 0))), (2, .ref (ad (16, 0, 0))), (3, .ref (ad (17, 0, 0))), (4, .ref (ad (18, 0, 0))), (7, .int b7), (8, .int r6), (10, .int b10), (11, .int b11)]) C dL_law_277 (by decide) rfl ?_
              refine V_iload C dL_law_279 8 rfl ?_
              refine V_istore (lv' := [(9, .int b11), (5, .int 0), (1, .ref (ad (0, 0, 0))), (2, .ref (ad (16, 0, 0))), (3, .ref (ad (17, 0, 0))), (4, .ref (ad (18, 0, 0))), (7, .int b7), (8, .int r6), (10, .int b10), (11, .int b11)]) C dL_law_281 (by decide) rfl ?_
              obtain ⟨x10_50, hx10_50⟩ : ∃ y : Int32, y = b10 + 1 := ⟨_, rfl⟩
              replace hJ := hJ x10_50 hx10_50
              refine V_iinc (v := x10_50) (lv' := [(10, .int x10_50), (9, .int b11), (5, .int 0), (1, .ref (ad (0, 0, 0))), (2, .ref (ad (16, 0, 0))), (3, .ref (ad (17, 0, 0))), (4, .ref (ad (18, 0, 0))), (7, .int b7), (8, .int r6), (11, .int b11)]) C dL_law_283 8 rfl (by rw [hx10_50]; exact congrArg _ ci_1) (by decide) rfl ?_
              refine V_goto C (tgt := 174) dL_law_286 rfl ?_
              refine V_sub (lv' := [(1, .ref (ad (0, 0, 0))), (2, .ref (ad (16, 0, 0))), (3, .ref (ad (17, 0, 0))), (4, .ref (ad (18, 0, 0))), (5, .int 0), (7, .int b7), (8, .int r6), (9, .int b11), (10, .int x10_50)]) [3, 4, 5, 6, 2, 7, 8, 1, 0] rfl ?_
              exact ih174 0 b11 x10_50 τ48 (Nat.lt_of_lt_of_le hJ.2 (Nat.le_of_lt_succ hμ174)) hJ.1
            · have hJ := hJf hc49; clear hJt hJf
              refine V_iconst (v := 1) C dL_law_272 ci_1 ?_
              refine V_goto C (tgt := 277) dL_law_273 rfl ?_
              refine V_istore (lv' := [(5, .int 1), (1, .ref (ad (0, 0, 0))), (2, .ref (ad (16, 0, 0))), (3, .ref (ad (17, 0, 0))), (4, .ref (ad (18, 0, 0))), (7, .int b7), (8, .int r6), (10, .int b10), (11, .int b11)]) C dL_law_277 (by decide) rfl ?_
              refine V_iload C dL_law_279 8 rfl ?_
              refine V_istore (lv' := [(9, .int b11), (5, .int 1), (1, .ref (ad (0, 0, 0))), (2, .ref (ad (16, 0, 0))), (3, .ref (ad (17, 0, 0))), (4, .ref (ad (18, 0, 0))), (7, .int b7), (8, .int r6), (10, .int b10), (11, .int b11)]) C dL_law_281 (by decide) rfl ?_
              obtain ⟨x10_51, hx10_51⟩ : ∃ y : Int32, y = b10 + 1 := ⟨_, rfl⟩
              replace hJ := hJ x10_51 hx10_51
              refine V_iinc (v := x10_51) (lv' := [(10, .int x10_51), (9, .int b11), (5, .int 1), (1, .ref (ad (0, 0, 0))), (2, .ref (ad (16, 0, 0))), (3, .ref (ad (17, 0, 0))), (4, .ref (ad (18, 0, 0))), (7, .int b7), (8, .int r6), (11, .int b11)]) C dL_law_283 8 rfl (by rw [hx10_51]; exact congrArg _ ci_1) (by decide) rfl ?_
              refine V_goto C (tgt := 174) dL_law_286 rfl ?_
              refine V_sub (lv' := [(1, .ref (ad (0, 0, 0))), (2, .ref (ad (16, 0, 0))), (3, .ref (ad (17, 0, 0))), (4, .ref (ad (18, 0, 0))), (5, .int 1), (7, .int b7), (8, .int r6), (9, .int b11), (10, .int x10_51)]) [3, 4, 5, 6, 2, 7, 8, 1, 0] rfl ?_
              exact ih174 1 b11 x10_51 τ48 (Nat.lt_of_lt_of_le hJ.2 (Nat.le_of_lt_succ hμ174)) hJ.1
        have B232 : ∀ (b9 : Int32) (b10 : Int32) (b11 : Int32) (τ : Mem), J_L_law_b232 L xs b7 r6 (fun z0 z1 z2 z3 => I174 z0 z1 z2 z3 ∧ μ174 z0 z1 z2 z3 < μ174 x5_7 x9_7 x10_7 τ7) b9 b10 b11 τ Qr → VV p l e room_1 s m #[Value.ref b] below meth c D vwCl idsX ad (ceX tc ad) A Q 12 kn 232 [(1, .ref (ad (0, 0, 0))), (2, .ref (ad (16, 0, 0))), (3, .ref (ad (17, 0, 0))), (4, .ref (ad (18, 0, 0))), (7, .int b7), (8, .int r6), (9, .int b9), (10, .int b10), (11, .int b11)] [] τ := by
          intro b9 b10 b11 τ hJ
          unfold J_L_law_b232 at hJ
          refine V_iload C dL_law_232 4 rfl ?_
          obtain ⟨hJt, hJf⟩ := hJ
          refine V_if_eq C (tgt := 253) dL_law_234 rfl (fun hc44 => ?_) (fun hc44 => ?_)
          · have hJ := hJt hc44; clear hJt hJf
            refine V_sub (lv' := [(1, .ref (ad (0, 0, 0))), (2, .ref (ad (16, 0, 0))), (3, .ref (ad (17, 0, 0))), (4, .ref (ad (18, 0, 0))), (7, .int b7), (8, .int r6), (10, .int b10), (11, .int b11)]) [0, 1, 2, 3, 4, 5, 7, 8] rfl ?_
            exact B253 b10 b11 τ hJ
          · have hJ := hJf hc44; clear hJt hJf
            refine V_aload_n C dL_law_237 0 rfl ?_
            refine V_cVi (st := []) (ci := 5) C okX_0_0 hR (M_X5_time l D tc ad A  hJ) (cwV 0 C.1.2.2.2.2 gT_X5_time rfl rfl rfl (by decide +kernel) ⟨Nat.le_of_ble_eq_true rfl, Nat.le_of_ble_eq_true rfl⟩) rfl rfl rfl rfl (Nat.le_of_ble_eq_true rfl) dL_law_238 (fun r52 τ52 hJ => ?_)
            refine V_iload C dL_law_241 4 rfl ?_
            obtain ⟨hJt, hJf⟩ := hJ
            refine V_icmp_ge C (tgt := 253) dL_law_243 rfl (fun hc53 => ?_) (fun hc53 => ?_)
            · have hJ := hJt hc53; clear hJt hJf
              refine V_sub (lv' := [(1, .ref (ad (0, 0, 0))), (2, .ref (ad (16, 0, 0))), (3, .ref (ad (17, 0, 0))), (4, .ref (ad (18, 0, 0))), (7, .int b7), (8, .int r6), (10, .int b10), (11, .int b11)]) [0, 1, 2, 3, 4, 5, 7, 8] rfl ?_
              exact B253 b10 b11 τ52 hJ
            · have hJ := hJf hc53; clear hJt hJf
              refine V_iload C dL_law_246 8 rfl ?_
              refine V_iload C dL_law_248 6 rfl ?_
              obtain ⟨hJt, hJf⟩ := hJ
              refine V_icmp_lt C (tgt := 276) dL_law_250 rfl (fun hc54 => ?_) (fun hc54 => ?_)
              · have hJ := hJt hc54; clear hJt hJf
                refine V_iconst (v := 0) C dL_law_276 ci_0 ?_
                refine V_istore (lv' := [(5, .int 0), (1, .ref (ad (0, 0, 0))), (2, .ref (ad (16, 0, 0))), (3, .ref (ad (17, 0, 0))), (4, .ref (ad (18, 0, 0))), (7, .int b7), (8, .int r6), (9, .int b9), (10, .int b10), (11, .int b11)]) C dL_law_277 (by decide) rfl ?_
                refine V_iload C dL_law_279 9 rfl ?_
                refine V_istore (lv' := [(9, .int b11), (5, .int 0), (1, .ref (ad (0, 0, 0))), (2, .ref (ad (16, 0, 0))), (3, .ref (ad (17, 0, 0))), (4, .ref (ad (18, 0, 0))), (7, .int b7), (8, .int r6), (10, .int b10), (11, .int b11)]) C dL_law_281 (by decide) rfl ?_
                obtain ⟨x10_55, hx10_55⟩ : ∃ y : Int32, y = b10 + 1 := ⟨_, rfl⟩
                replace hJ := hJ x10_55 hx10_55
                refine V_iinc (v := x10_55) (lv' := [(10, .int x10_55), (9, .int b11), (5, .int 0), (1, .ref (ad (0, 0, 0))), (2, .ref (ad (16, 0, 0))), (3, .ref (ad (17, 0, 0))), (4, .ref (ad (18, 0, 0))), (7, .int b7), (8, .int r6), (11, .int b11)]) C dL_law_283 8 rfl (by rw [hx10_55]; exact congrArg _ ci_1) (by decide) rfl ?_
                refine V_goto C (tgt := 174) dL_law_286 rfl ?_
                refine V_sub (lv' := [(1, .ref (ad (0, 0, 0))), (2, .ref (ad (16, 0, 0))), (3, .ref (ad (17, 0, 0))), (4, .ref (ad (18, 0, 0))), (5, .int 0), (7, .int b7), (8, .int r6), (9, .int b11), (10, .int x10_55)]) [3, 4, 5, 6, 2, 7, 8, 1, 0] rfl ?_
                exact ih174 0 b11 x10_55 τ52 (Nat.lt_of_lt_of_le hJ.2 (Nat.le_of_lt_succ hμ174)) hJ.1
              · have hJ := hJf hc54; clear hJt hJf
                refine V_sub (lv' := [(1, .ref (ad (0, 0, 0))), (2, .ref (ad (16, 0, 0))), (3, .ref (ad (17, 0, 0))), (4, .ref (ad (18, 0, 0))), (7, .int b7), (8, .int r6), (10, .int b10), (11, .int b11)]) [0, 1, 2, 3, 4, 5, 7, 8] rfl ?_
                exact B253 b10 b11 τ52 hJ
        refine V_iload C dL_law_174 8 rfl ?_
        refine V_bipush (v := 8) C dL_law_176 cb_8 ?_
        obtain ⟨hJt, hJf⟩ := hJ
        refine V_icmp_ge C (tgt := 289) dL_law_178 rfl (fun hc8 => ?_) (fun hc8 => ?_)
        · have hJ := hJt hc8; clear hJt hJf
          refine V_sub (lv' := [(1, .ref (ad (0, 0, 0))), (2, .ref (ad (16, 0, 0))), (3, .ref (ad (17, 0, 0))), (4, .ref (ad (18, 0, 0))), (5, .int x5_7), (8, .int r6)]) [0, 1, 2, 3, 4, 6] rfl ?_
          exact B289 x5_7 r6 τ7 hJ
        · have hJ := hJf hc8; clear hJt hJf
          refine V_iload C dL_law_181 4 rfl ?_
          obtain ⟨hJt, hJf⟩ := hJ
          refine V_if_eq C (tgt := 289) dL_law_183 rfl (fun hc34 => ?_) (fun hc34 => ?_)
          · have hJ := hJt hc34; clear hJt hJf
            refine V_sub (lv' := [(1, .ref (ad (0, 0, 0))), (2, .ref (ad (16, 0, 0))), (3, .ref (ad (17, 0, 0))), (4, .ref (ad (18, 0, 0))), (5, .int x5_7), (8, .int r6)]) [0, 1, 2, 3, 4, 6] rfl ?_
            exact B289 x5_7 r6 τ7 hJ
          · have hJ := hJf hc34; clear hJt hJf
            refine V_aload_n C dL_law_186 0 rfl ?_
            refine V_cVi (st := []) (ci := 5) C okX_0_0 hR (M_X5_turn l D tc ad A  hJ) (cwV 0 C.1.2.2.2.2 gT_X5_turn rfl rfl rfl (by decide +kernel) ⟨Nat.le_of_ble_eq_true rfl, Nat.le_of_ble_eq_true rfl⟩) rfl rfl rfl rfl (Nat.le_of_ble_eq_true rfl) dL_law_187 (fun r35 τ35 hJ => ?_)
            refine V_istore (lv' := [(11, .int r35), (1, .ref (ad (0, 0, 0))), (2, .ref (ad (16, 0, 0))), (3, .ref (ad (17, 0, 0))), (4, .ref (ad (18, 0, 0))), (5, .int x5_7), (7, .int b7), (8, .int r6), (9, .int x9_7), (10, .int x10_7)]) C dL_law_190 (by decide) rfl ?_
            refine V_aload_n C dL_law_192 1 rfl ?_
            refine V_aload_n C dL_law_193 2 rfl ?_
            refine V_aload_n C dL_law_194 3 rfl ?_
            refine V_aload C dL_law_195 4 rfl ?_
            refine V_cSi (st := []) C hR (M_L_sound l D tc ad A  hJ) (va_cwS 4 C.1.2.2.2.2 gT_L_sound rfl rfl rfl (by decide +kernel) ⟨Nat.le_of_ble_eq_true rfl, Nat.le_of_ble_eq_true rfl⟩) rfl rfl (Nat.le_of_ble_eq_true rfl) dL_law_197 (fun r36 τ36 hJ => ?_)
            obtain ⟨hJt, hJf⟩ := hJ
            refine V_if_eq C (tgt := 276) dL_law_200 rfl (fun hc37 => ?_) (fun hc37 => ?_)
            · have hJ := hJt hc37; clear hJt hJf
              refine V_iconst (v := 0) C dL_law_276 ci_0 ?_
              refine V_istore (lv' := [(5, .int 0), (11, .int r35), (1, .ref (ad (0, 0, 0))), (2, .ref (ad (16, 0, 0))), (3, .ref (ad (17, 0, 0))), (4, .ref (ad (18, 0, 0))), (7, .int b7), (8, .int r6), (9, .int x9_7), (10, .int x10_7)]) C dL_law_277 (by decide) rfl ?_
              refine V_iload C dL_law_279 1 rfl ?_
              refine V_istore (lv' := [(9, .int r35), (5, .int 0), (11, .int r35), (1, .ref (ad (0, 0, 0))), (2, .ref (ad (16, 0, 0))), (3, .ref (ad (17, 0, 0))), (4, .ref (ad (18, 0, 0))), (7, .int b7), (8, .int r6), (10, .int x10_7)]) C dL_law_281 (by decide) rfl ?_
              obtain ⟨x10_38, hx10_38⟩ : ∃ y : Int32, y = x10_7 + 1 := ⟨_, rfl⟩
              replace hJ := hJ x10_38 hx10_38
              refine V_iinc (v := x10_38) (lv' := [(10, .int x10_38), (9, .int r35), (5, .int 0), (11, .int r35), (1, .ref (ad (0, 0, 0))), (2, .ref (ad (16, 0, 0))), (3, .ref (ad (17, 0, 0))), (4, .ref (ad (18, 0, 0))), (7, .int b7), (8, .int r6)]) C dL_law_283 9 rfl (by rw [hx10_38]; exact congrArg _ ci_1) (by decide) rfl ?_
              refine V_goto C (tgt := 174) dL_law_286 rfl ?_
              refine V_sub (lv' := [(1, .ref (ad (0, 0, 0))), (2, .ref (ad (16, 0, 0))), (3, .ref (ad (17, 0, 0))), (4, .ref (ad (18, 0, 0))), (5, .int 0), (7, .int b7), (8, .int r6), (9, .int r35), (10, .int x10_38)]) [4, 5, 6, 7, 2, 8, 9, 1, 0] rfl ?_
              exact ih174 0 r35 x10_38 τ36 (Nat.lt_of_lt_of_le hJ.2 (Nat.le_of_lt_succ hμ174)) hJ.1
            · have hJ := hJf hc37; clear hJt hJf
              refine V_iload C dL_law_203 6 rfl ?_
              obtain ⟨hJt, hJf⟩ := hJ
              refine V_if_ne C (tgt := 218) dL_law_205 rfl (fun hc39 => ?_) (fun hc39 => ?_)
              · have hJ := hJt hc39; clear hJt hJf
                refine V_iload C dL_law_218 0 rfl ?_
                obtain ⟨hJt, hJf⟩ := hJ
                refine V_if_lt C (tgt := 276) dL_law_220 rfl (fun hc40 => ?_) (fun hc40 => ?_)
                · have hJ := hJt hc40; clear hJt hJf
                  refine V_iconst (v := 0) C dL_law_276 ci_0 ?_
                  refine V_istore (lv' := [(5, .int 0), (11, .int r35), (1, .ref (ad (0, 0, 0))), (2, .ref (ad (16, 0, 0))), (3, .ref (ad (17, 0, 0))), (4, .ref (ad (18, 0, 0))), (7, .int b7), (8, .int r6), (9, .int x9_7), (10, .int x10_7)]) C dL_law_277 (by decide) rfl ?_
                  refine V_iload C dL_law_279 1 rfl ?_
                  refine V_istore (lv' := [(9, .int r35), (5, .int 0), (11, .int r35), (1, .ref (ad (0, 0, 0))), (2, .ref (ad (16, 0, 0))), (3, .ref (ad (17, 0, 0))), (4, .ref (ad (18, 0, 0))), (7, .int b7), (8, .int r6), (10, .int x10_7)]) C dL_law_281 (by decide) rfl ?_
                  obtain ⟨x10_41, hx10_41⟩ : ∃ y : Int32, y = x10_7 + 1 := ⟨_, rfl⟩
                  replace hJ := hJ x10_41 hx10_41
                  refine V_iinc (v := x10_41) (lv' := [(10, .int x10_41), (9, .int r35), (5, .int 0), (11, .int r35), (1, .ref (ad (0, 0, 0))), (2, .ref (ad (16, 0, 0))), (3, .ref (ad (17, 0, 0))), (4, .ref (ad (18, 0, 0))), (7, .int b7), (8, .int r6)]) C dL_law_283 9 rfl (by rw [hx10_41]; exact congrArg _ ci_1) (by decide) rfl ?_
                  refine V_goto C (tgt := 174) dL_law_286 rfl ?_
                  refine V_sub (lv' := [(1, .ref (ad (0, 0, 0))), (2, .ref (ad (16, 0, 0))), (3, .ref (ad (17, 0, 0))), (4, .ref (ad (18, 0, 0))), (5, .int 0), (7, .int b7), (8, .int r6), (9, .int r35), (10, .int x10_41)]) [4, 5, 6, 7, 2, 8, 9, 1, 0] rfl ?_
                  exact ih174 0 r35 x10_41 τ36 (Nat.lt_of_lt_of_le hJ.2 (Nat.le_of_lt_succ hμ174)) hJ.1
                · have hJ := hJf hc40; clear hJt hJf
                  refine V_iload C dL_law_223 0 rfl ?_
                  refine V_aload C dL_law_225 4 rfl ?_
                  refine V_iconst (v := 1) C dL_law_227 ci_1 ?_
                  refine V_iald C okX_18_0 0 rfl rfl ix_1 vpc_1_4 dL_law_228 ?_
                  obtain ⟨hJt, hJf⟩ := hJ
                  refine V_icmp_ge C (tgt := 276) dL_law_229 rfl (fun hc42 => ?_) (fun hc42 => ?_)
                  · have hJ := hJt hc42; clear hJt hJf
                    refine V_iconst (v := 0) C dL_law_276 ci_0 ?_
                    refine V_istore (lv' := [(5, .int 0), (11, .int r35), (1, .ref (ad (0, 0, 0))), (2, .ref (ad (16, 0, 0))), (3, .ref (ad (17, 0, 0))), (4, .ref (ad (18, 0, 0))), (7, .int b7), (8, .int r6), (9, .int x9_7), (10, .int x10_7)]) C dL_law_277 (by decide) rfl ?_
                    refine V_iload C dL_law_279 1 rfl ?_
                    refine V_istore (lv' := [(9, .int r35), (5, .int 0), (11, .int r35), (1, .ref (ad (0, 0, 0))), (2, .ref (ad (16, 0, 0))), (3, .ref (ad (17, 0, 0))), (4, .ref (ad (18, 0, 0))), (7, .int b7), (8, .int r6), (10, .int x10_7)]) C dL_law_281 (by decide) rfl ?_
                    obtain ⟨x10_43, hx10_43⟩ : ∃ y : Int32, y = x10_7 + 1 := ⟨_, rfl⟩
                    replace hJ := hJ x10_43 hx10_43
                    refine V_iinc (v := x10_43) (lv' := [(10, .int x10_43), (9, .int r35), (5, .int 0), (11, .int r35), (1, .ref (ad (0, 0, 0))), (2, .ref (ad (16, 0, 0))), (3, .ref (ad (17, 0, 0))), (4, .ref (ad (18, 0, 0))), (7, .int b7), (8, .int r6)]) C dL_law_283 9 rfl (by rw [hx10_43]; exact congrArg _ ci_1) (by decide) rfl ?_
                    refine V_goto C (tgt := 174) dL_law_286 rfl ?_
                    refine V_sub (lv' := [(1, .ref (ad (0, 0, 0))), (2, .ref (ad (16, 0, 0))), (3, .ref (ad (17, 0, 0))), (4, .ref (ad (18, 0, 0))), (5, .int 0), (7, .int b7), (8, .int r6), (9, .int r35), (10, .int x10_43)]) [4, 5, 6, 7, 2, 8, 9, 1, 0] rfl ?_
                    exact ih174 0 r35 x10_43 τ36 (Nat.lt_of_lt_of_le hJ.2 (Nat.le_of_lt_succ hμ174)) hJ.1
                  · have hJ := hJf hc42; clear hJt hJf
                    refine V_sub (lv' := [(1, .ref (ad (0, 0, 0))), (2, .ref (ad (16, 0, 0))), (3, .ref (ad (17, 0, 0))), (4, .ref (ad (18, 0, 0))), (7, .int b7), (8, .int r6), (9, .int x9_7), (10, .int x10_7), (11, .int r35)]) [1, 2, 3, 4, 6, 7, 8, 9, 0] rfl ?_
                    exact B232 x9_7 x10_7 r35 τ36 hJ
              · have hJ := hJf hc39; clear hJt hJf
                refine V_iload C dL_law_208 0 rfl ?_
                refine V_bipush (v := (-105)) C dL_law_210 cb_m105 ?_
                obtain ⟨hJt, hJf⟩ := hJ
                refine V_icmp_ne C (tgt := 276) dL_law_212 rfl (fun hc56 => ?_) (fun hc56 => ?_)
                · have hJ := hJt hc56; clear hJt hJf
                  refine V_iconst (v := 0) C dL_law_276 ci_0 ?_
                  refine V_istore (lv' := [(5, .int 0), (11, .int r35), (1, .ref (ad (0, 0, 0))), (2, .ref (ad (16, 0, 0))), (3, .ref (ad (17, 0, 0))), (4, .ref (ad (18, 0, 0))), (7, .int b7), (8, .int r6), (9, .int x9_7), (10, .int x10_7)]) C dL_law_277 (by decide) rfl ?_
                  refine V_iload C dL_law_279 1 rfl ?_
                  refine V_istore (lv' := [(9, .int r35), (5, .int 0), (11, .int r35), (1, .ref (ad (0, 0, 0))), (2, .ref (ad (16, 0, 0))), (3, .ref (ad (17, 0, 0))), (4, .ref (ad (18, 0, 0))), (7, .int b7), (8, .int r6), (10, .int x10_7)]) C dL_law_281 (by decide) rfl ?_
                  obtain ⟨x10_57, hx10_57⟩ : ∃ y : Int32, y = x10_7 + 1 := ⟨_, rfl⟩
                  replace hJ := hJ x10_57 hx10_57
                  refine V_iinc (v := x10_57) (lv' := [(10, .int x10_57), (9, .int r35), (5, .int 0), (11, .int r35), (1, .ref (ad (0, 0, 0))), (2, .ref (ad (16, 0, 0))), (3, .ref (ad (17, 0, 0))), (4, .ref (ad (18, 0, 0))), (7, .int b7), (8, .int r6)]) C dL_law_283 9 rfl (by rw [hx10_57]; exact congrArg _ ci_1) (by decide) rfl ?_
                  refine V_goto C (tgt := 174) dL_law_286 rfl ?_
                  refine V_sub (lv' := [(1, .ref (ad (0, 0, 0))), (2, .ref (ad (16, 0, 0))), (3, .ref (ad (17, 0, 0))), (4, .ref (ad (18, 0, 0))), (5, .int 0), (7, .int b7), (8, .int r6), (9, .int r35), (10, .int x10_57)]) [4, 5, 6, 7, 2, 8, 9, 1, 0] rfl ?_
                  exact ih174 0 r35 x10_57 τ36 (Nat.lt_of_lt_of_le hJ.2 (Nat.le_of_lt_succ hμ174)) hJ.1
                · have hJ := hJf hc56; clear hJt hJf
                  refine V_goto C (tgt := 232) dL_law_215 rfl ?_
                  refine V_sub (lv' := [(1, .ref (ad (0, 0, 0))), (2, .ref (ad (16, 0, 0))), (3, .ref (ad (17, 0, 0))), (4, .ref (ad (18, 0, 0))), (7, .int b7), (8, .int r6), (9, .int x9_7), (10, .int x10_7), (11, .int r35)]) [1, 2, 3, 4, 6, 7, 8, 9, 0] rfl ?_
                  exact B232 x9_7 x10_7 r35 τ36 hJ
    exact L174 _ b5 (-1) 0 τ6 (Nat.lt_succ_self _) hI174
  have B89 : ∀ (t0 : Int32) (τ : Mem), J_L_law_b89 L xs  t0 τ Qr → VV p l e room_1 s m #[Value.ref b] below meth c D vwCl idsX ad (ceX tc ad) A Q 12 kn 89 [(0, .ref b), (1, .ref (ad (0, 0, 0))), (2, .ref (ad (16, 0, 0))), (3, .ref (ad (17, 0, 0))), (4, .ref (ad (18, 0, 0)))] [.int t0] τ := by
    intro t0 τ hJ
    unfold J_L_law_b89 at hJ
    refine V_istore (lv' := [(5, .int t0), (0, .ref b), (1, .ref (ad (0, 0, 0))), (2, .ref (ad (16, 0, 0))), (3, .ref (ad (17, 0, 0))), (4, .ref (ad (18, 0, 0)))]) C dL_law_89 (by decide) rfl ?_
    refine V_aload_n C dL_law_91 1 rfl ?_
    refine V_bipush (v := 11) C dL_law_92 cb_11 ?_
    refine V_cSSi (st := []) C hX hbl hbA hR (M_L_cell l D tc ad A L xs b 11 hJ) (va_cwS 2 C.1.2.2.2.2 gT_L_cell rfl rfl rfl (by decide +kernel) ⟨Nat.le_of_ble_eq_true rfl, Nat.le_of_ble_eq_true rfl⟩) rfl rfl (Nat.le_of_ble_eq_true rfl) dL_law_94 (fun r3 τ3 hJ => ?_)
    refine V_istore (lv' := [(6, .int r3), (5, .int t0), (0, .ref b), (1, .ref (ad (0, 0, 0))), (2, .ref (ad (16, 0, 0))), (3, .ref (ad (17, 0, 0))), (4, .ref (ad (18, 0, 0)))]) C dL_law_97 (by decide) rfl ?_
    refine V_iconst (v := 0) C dL_law_99 ci_0 ?_
    refine V_istore (lv' := [(7, .int 0), (6, .int r3), (5, .int t0), (0, .ref b), (1, .ref (ad (0, 0, 0))), (2, .ref (ad (16, 0, 0))), (3, .ref (ad (17, 0, 0))), (4, .ref (ad (18, 0, 0)))]) C dL_law_100 (by decide) rfl ?_
    refine V_iconst (v := 0) C dL_law_102 ci_0 ?_
    refine V_istore (lv' := [(8, .int 0), (7, .int 0), (6, .int r3), (5, .int t0), (0, .ref b), (1, .ref (ad (0, 0, 0))), (2, .ref (ad (16, 0, 0))), (3, .ref (ad (17, 0, 0))), (4, .ref (ad (18, 0, 0)))]) C dL_law_103 (by decide) rfl ?_
    refine V_sub (lv' := [(1, .ref (ad (0, 0, 0))), (2, .ref (ad (16, 0, 0))), (3, .ref (ad (17, 0, 0))), (4, .ref (ad (18, 0, 0))), (5, .int t0), (6, .int r3), (7, .int 0), (8, .int 0)]) [5, 6, 7, 8, 3, 2, 1, 0] rfl ?_
    obtain ⟨I105, μ105, hI105, hst105⟩ := hJ
    have L105 : ∀ (n : Nat) (x5_4 : Int32) (x7_4 : Int32) (x8_4 : Int32) (τ4 : Mem), μ105 x5_4 x7_4 x8_4 τ4 < n → I105 x5_4 x7_4 x8_4 τ4 → VV p l e room_1 s m #[Value.ref b] below meth c D vwCl idsX ad (ceX tc ad) A Q 12 kn 105 [(1, .ref (ad (0, 0, 0))), (2, .ref (ad (16, 0, 0))), (3, .ref (ad (17, 0, 0))), (4, .ref (ad (18, 0, 0))), (5, .int x5_4), (6, .int r3), (7, .int x7_4), (8, .int x8_4)] [] τ4 := by
      intro n
      induction n with
      | zero => intro x5_4 x7_4 x8_4 τ4 hμ _; exact absurd hμ (Nat.not_lt_zero _)
      | succ n ihn =>
        intro x5_4 x7_4 x8_4 τ4 hμ105 hJ
        have ih105 := ihn
        replace hJ := hst105 x5_4 x7_4 x8_4 τ4 hJ
        refine V_iload C dL_law_105 7 rfl ?_
        refine V_aload C dL_law_107 3 rfl ?_
        refine V_iconst (v := 1) C dL_law_109 ci_1 ?_
        refine V_iald C okX_18_0 0 rfl rfl ix_1 vpc_1_4 dL_law_110 ?_
        obtain ⟨hJt, hJf⟩ := hJ
        refine V_icmp_ge C (tgt := 161) dL_law_111 rfl (fun hc5 => ?_) (fun hc5 => ?_)
        · have hJ := hJt hc5; clear hJt hJf
          refine V_sub (lv' := [(1, .ref (ad (0, 0, 0))), (2, .ref (ad (16, 0, 0))), (3, .ref (ad (17, 0, 0))), (4, .ref (ad (18, 0, 0))), (5, .int x5_4), (7, .int x7_4)]) [0, 1, 2, 3, 4, 6] rfl ?_
          exact B161 x5_4 x7_4 τ4 hJ
        · have hJ := hJf hc5; clear hJt hJf
          refine V_iload C dL_law_114 4 rfl ?_
          obtain ⟨hJt, hJf⟩ := hJ
          refine V_if_eq C (tgt := 161) dL_law_116 rfl (fun hc58 => ?_) (fun hc58 => ?_)
          · have hJ := hJt hc58; clear hJt hJf
            refine V_sub (lv' := [(1, .ref (ad (0, 0, 0))), (2, .ref (ad (16, 0, 0))), (3, .ref (ad (17, 0, 0))), (4, .ref (ad (18, 0, 0))), (5, .int x5_4), (7, .int x7_4)]) [0, 1, 2, 3, 4, 6] rfl ?_
            exact B161 x5_4 x7_4 τ4 hJ
          · have hJ := hJf hc58; clear hJt hJf
            refine V_iload C dL_law_119 5 rfl ?_
            refine V_iconst (v := 2) C dL_law_121 ci_2 ?_
            refine V_iload C dL_law_122 7 rfl ?_
            refine V_imul C dL_law_124 ?_
            refine V_ishr C dL_law_125 ?_
            refine V_iconst (v := 4) C dL_law_126 ci_4 ?_
            refine V_irem C dL_law_127 (by decide) ?_
            refine V_topi (fun x9_59 hx9_59 => ?_)
            replace hJ := hJ x9_59 hx9_59
            refine V_istore (lv' := [(9, .int x9_59), (1, .ref (ad (0, 0, 0))), (2, .ref (ad (16, 0, 0))), (3, .ref (ad (17, 0, 0))), (4, .ref (ad (18, 0, 0))), (5, .int x5_4), (6, .int r3), (7, .int x7_4), (8, .int x8_4)]) C dL_law_128 (by decide) rfl ?_
            refine V_iload C dL_law_130 7 rfl ?_
            refine V_iload C dL_law_132 0 rfl ?_
            refine V_iadd C dL_law_134 ?_
            refine V_topi (fun x7_60 hx7_60 => ?_)
            replace hJ := hJ x7_60 hx7_60
            refine V_istore (lv' := [(7, .int x7_60), (9, .int x9_59), (1, .ref (ad (0, 0, 0))), (2, .ref (ad (16, 0, 0))), (3, .ref (ad (17, 0, 0))), (4, .ref (ad (18, 0, 0))), (5, .int x5_4), (6, .int r3), (8, .int x8_4)]) C dL_law_135 (by decide) rfl ?_
            refine V_aload_n C dL_law_137 2 rfl ?_
            refine V_iload C dL_law_138 8 rfl ?_
            refine V_iload C dL_law_140 1 rfl ?_
            refine V_cVi (st := []) (ci := 5) C okX_0_0 hR (M_X5_setTurn l D tc ad A x8_4 x9_59 hJ) (cwV 2 C.1.2.2.2.2 gT_X5_setTurn rfl rfl rfl (by decide +kernel) ⟨Nat.le_of_ble_eq_true rfl, Nat.le_of_ble_eq_true rfl⟩) rfl rfl rfl rfl (Nat.le_of_ble_eq_true rfl) dL_law_142 (fun r61 τ61 hJ => ?_)
            obtain ⟨hJt, hJf⟩ := hJ
            refine V_if_ne C (tgt := 152) dL_law_145 rfl (fun hc62 => ?_) (fun hc62 => ?_)
            · have hJ := hJt hc62; clear hJt hJf
              refine V_iconst (v := 0) C dL_law_152 ci_0 ?_
              refine V_istore (lv' := [(5, .int 0), (7, .int x7_60), (9, .int x9_59), (1, .ref (ad (0, 0, 0))), (2, .ref (ad (16, 0, 0))), (3, .ref (ad (17, 0, 0))), (4, .ref (ad (18, 0, 0))), (6, .int r3), (8, .int x8_4)]) C dL_law_153 (by decide) rfl ?_
              obtain ⟨x8_63, hx8_63⟩ : ∃ y : Int32, y = x8_4 + 1 := ⟨_, rfl⟩
              replace hJ := hJ x8_63 hx8_63
              refine V_iinc (v := x8_63) (lv' := [(8, .int x8_63), (5, .int 0), (7, .int x7_60), (9, .int x9_59), (1, .ref (ad (0, 0, 0))), (2, .ref (ad (16, 0, 0))), (3, .ref (ad (17, 0, 0))), (4, .ref (ad (18, 0, 0))), (6, .int r3)]) C dL_law_155 8 rfl (by rw [hx8_63]; exact congrArg _ ci_1) (by decide) rfl ?_
              refine V_goto C (tgt := 105) dL_law_158 rfl ?_
              refine V_sub (lv' := [(1, .ref (ad (0, 0, 0))), (2, .ref (ad (16, 0, 0))), (3, .ref (ad (17, 0, 0))), (4, .ref (ad (18, 0, 0))), (5, .int 0), (6, .int r3), (7, .int x7_60), (8, .int x8_63)]) [4, 5, 6, 7, 1, 8, 2, 0] rfl ?_
              exact ih105 0 x7_60 x8_63 τ61 (Nat.lt_of_lt_of_le hJ.2 (Nat.le_of_lt_succ hμ105)) hJ.1
            · have hJ := hJf hc62; clear hJt hJf
              refine V_iconst (v := 1) C dL_law_148 ci_1 ?_
              refine V_goto C (tgt := 153) dL_law_149 rfl ?_
              refine V_istore (lv' := [(5, .int 1), (7, .int x7_60), (9, .int x9_59), (1, .ref (ad (0, 0, 0))), (2, .ref (ad (16, 0, 0))), (3, .ref (ad (17, 0, 0))), (4, .ref (ad (18, 0, 0))), (6, .int r3), (8, .int x8_4)]) C dL_law_153 (by decide) rfl ?_
              obtain ⟨x8_64, hx8_64⟩ : ∃ y : Int32, y = x8_4 + 1 := ⟨_, rfl⟩
              replace hJ := hJ x8_64 hx8_64
              refine V_iinc (v := x8_64) (lv' := [(8, .int x8_64), (5, .int 1), (7, .int x7_60), (9, .int x9_59), (1, .ref (ad (0, 0, 0))), (2, .ref (ad (16, 0, 0))), (3, .ref (ad (17, 0, 0))), (4, .ref (ad (18, 0, 0))), (6, .int r3)]) C dL_law_155 8 rfl (by rw [hx8_64]; exact congrArg _ ci_1) (by decide) rfl ?_
              refine V_goto C (tgt := 105) dL_law_158 rfl ?_
              refine V_sub (lv' := [(1, .ref (ad (0, 0, 0))), (2, .ref (ad (16, 0, 0))), (3, .ref (ad (17, 0, 0))), (4, .ref (ad (18, 0, 0))), (5, .int 1), (6, .int r3), (7, .int x7_60), (8, .int x8_64)]) [4, 5, 6, 7, 1, 8, 2, 0] rfl ?_
              exact ih105 1 x7_60 x8_64 τ61 (Nat.lt_of_lt_of_le hJ.2 (Nat.le_of_lt_succ hμ105)) hJ.1
    exact L105 _ t0 0 0 τ3 (Nat.lt_succ_self _) hI105
  unfold J_L_law at hJ
  refine V_aload_n C dL_law_23 3 rfl ?_
  refine V_iconst (v := 1) C dL_law_24 ci_1 ?_
  refine V_cVi (st := []) (ci := 5) C okX_0_0 hR (M_X5_restore l D tc ad A 1 hJ) (cwV 1 C.1.2.2.2.2 gT_X5_restore rfl rfl rfl (by decide +kernel) ⟨Nat.le_of_ble_eq_true rfl, Nat.le_of_ble_eq_true rfl⟩) rfl rfl rfl rfl (Nat.le_of_ble_eq_true rfl) dL_law_25 (fun r1 τ1 hJ => ?_)
  refine V_bipush (v := (-103)) C dL_law_28 cb_m103 ?_
  obtain ⟨hJt, hJf⟩ := hJ
  refine V_icmp_ne C (tgt := 88) dL_law_30 rfl (fun hc2 => ?_) (fun hc2 => ?_)
  · have hJ := hJt hc2; clear hJt hJf
    refine V_iconst (v := 0) C dL_law_88 ci_0 ?_
    refine V_sub (lv' := [(0, .ref b), (1, .ref (ad (0, 0, 0))), (2, .ref (ad (16, 0, 0))), (3, .ref (ad (17, 0, 0))), (4, .ref (ad (18, 0, 0)))]) [4, 3, 2, 1, 0] rfl ?_
    exact B89 0 τ1 hJ
  · have hJ := hJf hc2; clear hJt hJf
    refine V_aload_n C dL_law_33 3 rfl ?_
    refine V_cVi (st := []) (ci := 5) C okX_0_0 hR (M_X5_turn l D tc ad A  hJ) (cwV 0 C.1.2.2.2.2 gT_X5_turn rfl rfl rfl (by decide +kernel) ⟨Nat.le_of_ble_eq_true rfl, Nat.le_of_ble_eq_true rfl⟩) rfl rfl rfl rfl (Nat.le_of_ble_eq_true rfl) dL_law_34 (fun r65 τ65 hJ => ?_)
    refine V_bipush (v := (-105)) C dL_law_37 cb_m105 ?_
    obtain ⟨hJt, hJf⟩ := hJ
    refine V_icmp_ne C (tgt := 88) dL_law_39 rfl (fun hc66 => ?_) (fun hc66 => ?_)
    · have hJ := hJt hc66; clear hJt hJf
      refine V_iconst (v := 0) C dL_law_88 ci_0 ?_
      refine V_sub (lv' := [(0, .ref b), (1, .ref (ad (0, 0, 0))), (2, .ref (ad (16, 0, 0))), (3, .ref (ad (17, 0, 0))), (4, .ref (ad (18, 0, 0)))]) [4, 3, 2, 1, 0] rfl ?_
      exact B89 0 τ65 hJ
    · have hJ := hJf hc66; clear hJt hJf
      refine V_aload_n C dL_law_42 3 rfl ?_
      refine V_aload_n C dL_law_43 4 rfl ?_
      refine V_iconst (v := 0) C dL_law_44 ci_0 ?_
      refine V_aload_n C dL_law_45 2 rfl ?_
      refine V_aload_n C dL_law_46 1 rfl ?_
      refine V_aload C dL_law_47 0 rfl ?_
      refine V_cSSi (st := []) C hX hbl hbA hR (M_L_builds l D tc ad A L xs b 0 hJ) (va_cwS 6 C.1.2.2.2.2 gT_L_builds rfl rfl rfl (by decide +kernel) ⟨Nat.le_of_ble_eq_true rfl, Nat.le_of_ble_eq_true rfl⟩) rfl rfl (Nat.le_of_ble_eq_true rfl) dL_law_49 (fun r67 τ67 hJ => ?_)
      obtain ⟨hJt, hJf⟩ := hJ
      refine V_if_eq C (tgt := 88) dL_law_52 rfl (fun hc68 => ?_) (fun hc68 => ?_)
      · have hJ := hJt hc68; clear hJt hJf
        refine V_iconst (v := 0) C dL_law_88 ci_0 ?_
        refine V_sub (lv' := [(0, .ref b), (1, .ref (ad (0, 0, 0))), (2, .ref (ad (16, 0, 0))), (3, .ref (ad (17, 0, 0))), (4, .ref (ad (18, 0, 0)))]) [4, 3, 2, 1, 0] rfl ?_
        exact B89 0 τ67 hJ
      · have hJ := hJf hc68; clear hJt hJf
        refine V_aload_n C dL_law_55 3 rfl ?_
        refine V_aload_n C dL_law_56 2 rfl ?_
        refine V_aload_n C dL_law_57 1 rfl ?_
        refine V_aload C dL_law_58 0 rfl ?_
        refine V_cSi (st := []) C hR (M_L_sound l D tc ad A  hJ) (va_cwS 4 C.1.2.2.2.2 gT_L_sound rfl rfl rfl (by decide +kernel) ⟨Nat.le_of_ble_eq_true rfl, Nat.le_of_ble_eq_true rfl⟩) rfl rfl (Nat.le_of_ble_eq_true rfl) dL_law_60 (fun r69 τ69 hJ => ?_)
        obtain ⟨hJt, hJf⟩ := hJ
        refine V_if_eq C (tgt := 88) dL_law_63 rfl (fun hc70 => ?_) (fun hc70 => ?_)
        · have hJ := hJt hc70; clear hJt hJf
          refine V_iconst (v := 0) C dL_law_88 ci_0 ?_
          refine V_sub (lv' := [(0, .ref b), (1, .ref (ad (0, 0, 0))), (2, .ref (ad (16, 0, 0))), (3, .ref (ad (17, 0, 0))), (4, .ref (ad (18, 0, 0)))]) [4, 3, 2, 1, 0] rfl ?_
          exact B89 0 τ69 hJ
        · have hJ := hJf hc70; clear hJt hJf
          refine V_aload_n C dL_law_66 3 rfl ?_
          refine V_aload C dL_law_67 0 rfl ?_
          refine V_cSi (st := []) C hR (M_L_eldest l D tc ad A  hJ) (va_cwS 2 C.1.2.2.2.2 gT_L_eldest rfl rfl rfl (by decide +kernel) ⟨Nat.le_of_ble_eq_true rfl, Nat.le_of_ble_eq_true rfl⟩) rfl rfl (Nat.le_of_ble_eq_true rfl) dL_law_69 (fun r71 τ71 hJ => ?_)
          obtain ⟨hJt, hJf⟩ := hJ
          refine V_if_eq C (tgt := 88) dL_law_72 rfl (fun hc72 => ?_) (fun hc72 => ?_)
          · have hJ := hJt hc72; clear hJt hJf
            refine V_iconst (v := 0) C dL_law_88 ci_0 ?_
            refine V_sub (lv' := [(0, .ref b), (1, .ref (ad (0, 0, 0))), (2, .ref (ad (16, 0, 0))), (3, .ref (ad (17, 0, 0))), (4, .ref (ad (18, 0, 0)))]) [4, 3, 2, 1, 0] rfl ?_
            exact B89 0 τ71 hJ
          · have hJ := hJf hc72; clear hJt hJf
            refine V_aload_n C dL_law_75 3 rfl ?_
            refine V_aload C dL_law_76 0 rfl ?_
            refine V_cSi (st := []) C hR (M_L_refuses l D tc ad A  hJ) (va_cwS 2 C.1.2.2.2.2 gT_L_refuses rfl rfl rfl (by decide +kernel) ⟨Nat.le_of_ble_eq_true rfl, Nat.le_of_ble_eq_true rfl⟩) rfl rfl (Nat.le_of_ble_eq_true rfl) dL_law_78 (fun r73 τ73 hJ => ?_)
            obtain ⟨hJt, hJf⟩ := hJ
            refine V_if_eq C (tgt := 88) dL_law_81 rfl (fun hc74 => ?_) (fun hc74 => ?_)
            · have hJ := hJt hc74; clear hJt hJf
              refine V_iconst (v := 0) C dL_law_88 ci_0 ?_
              refine V_sub (lv' := [(0, .ref b), (1, .ref (ad (0, 0, 0))), (2, .ref (ad (16, 0, 0))), (3, .ref (ad (17, 0, 0))), (4, .ref (ad (18, 0, 0)))]) [4, 3, 2, 1, 0] rfl ?_
              exact B89 0 τ73 hJ
            · have hJ := hJf hc74; clear hJt hJf
              refine V_iconst (v := 1) C dL_law_84 ci_1 ?_
              refine V_goto C (tgt := 89) dL_law_85 rfl ?_
              refine V_sub (lv' := [(0, .ref b), (1, .ref (ad (0, 0, 0))), (2, .ref (ad (16, 0, 0))), (3, .ref (ad (17, 0, 0))), (4, .ref (ad (18, 0, 0)))]) [4, 3, 2, 1, 0] rfl ?_
              exact B89 1 τ73 hJ
