set_option maxHeartbeats 4000000 in
set_option maxRecDepth 100000 in
theorem M_L_older (l : Launch) (D : va_G) (tc : Nat → ClassId) (ad : Oid → Nat) (A : Nat → Prop) (x1 : Int32) (x2 : Int32) {σ : Mem} {Qr : Int32 → Mem → Prop} (hJ : J_L_older x1 x2 σ Qr) : Met l yL_older wsL_older ({ frames := 0, cells := 0, slots := 0, locals := 0 }) (va_Pc [.ref (ad (17, 0, 0)), .int x1, .int x2] (WdI D vwCl (tysX tc) idsX ad (ceX tc ad) A σ)) (va_Qi (fun (r : Int32) (u : Mem) => Qr r u) (WdO D vwCl idsX ad (ceX tc ad) A) A) 0 0 A := by
  refine V_meti (cc := cL_older) (nL := 3) (ret := (some .boolean)) (own := RL) rfl (plainFor_of_name (by decide)) rfl rfl (Nat.le_of_ble_eq_true rfl) ?_
  intro p e s m below meth c C hr hlocks
  refine V_sub (lv' := [(0, .ref (ad (17, 0, 0))), (1, .int x1), (2, .int x2)]) [0, 1, 2] rfl ?_
  unfold J_L_older at hJ
  refine V_aload_n C dL_older_0 0 rfl ?_
  refine V_iconst (v := 5) C dL_older_1 ci_5 ?_
  refine V_iload_n C dL_older_2 1 rfl ?_
  refine V_imul C dL_older_3 ?_
  refine V_iconst (v := 1) C dL_older_4 ci_1 ?_
  refine V_iadd C dL_older_5 ?_
  obtain ⟨hv1, hJ⟩ := hJ
  refine V_iald C okX_17_0 0 rfl rfl rfl hv1 dL_older_6 ?_
  refine V_aload_n C dL_older_7 0 rfl ?_
  refine V_iconst (v := 5) C dL_older_8 ci_5 ?_
  refine V_iload_n C dL_older_9 2 rfl ?_
  refine V_imul C dL_older_10 ?_
  refine V_iconst (v := 1) C dL_older_11 ci_1 ?_
  refine V_iadd C dL_older_12 ?_
  obtain ⟨hv2, hJ⟩ := hJ
  refine V_iald C okX_17_0 0 rfl rfl rfl hv2 dL_older_13 ?_
  obtain ⟨hJt, hJf⟩ := hJ
  refine V_icmp_lt C (tgt := 39) dL_older_14 rfl (fun hc3 => ?_) (fun hc3 => ?_)
  · have hJ := hJt hc3; clear hJt hJf
    refine V_iconst (v := 1) C dL_older_39 ci_1 ?_
    refine V_goto C (tgt := 44) dL_older_40 rfl ?_
    exact V_zret C hr hlocks (Or.inr rfl) dL_older_44 hJ
  · have hJ := hJf hc3; clear hJt hJf
    refine V_aload_n C dL_older_17 0 rfl ?_
    refine V_iconst (v := 5) C dL_older_18 ci_5 ?_
    refine V_iload_n C dL_older_19 1 rfl ?_
    refine V_imul C dL_older_20 ?_
    refine V_iconst (v := 1) C dL_older_21 ci_1 ?_
    refine V_iadd C dL_older_22 ?_
    obtain ⟨hv4, hJ⟩ := hJ
    refine V_iald C okX_17_0 0 rfl rfl rfl hv4 dL_older_23 ?_
    refine V_aload_n C dL_older_24 0 rfl ?_
    refine V_iconst (v := 5) C dL_older_25 ci_5 ?_
    refine V_iload_n C dL_older_26 2 rfl ?_
    refine V_imul C dL_older_27 ?_
    refine V_iconst (v := 1) C dL_older_28 ci_1 ?_
    refine V_iadd C dL_older_29 ?_
    obtain ⟨hv5, hJ⟩ := hJ
    refine V_iald C okX_17_0 0 rfl rfl rfl hv5 dL_older_30 ?_
    obtain ⟨hJt, hJf⟩ := hJ
    refine V_icmp_ne C (tgt := 43) dL_older_31 rfl (fun hc6 => ?_) (fun hc6 => ?_)
    · have hJ := hJt hc6; clear hJt hJf
      refine V_iconst (v := 0) C dL_older_43 ci_0 ?_
      exact V_zret C hr hlocks (Or.inl rfl) dL_older_44 hJ
    · have hJ := hJf hc6; clear hJt hJf
      refine V_iload_n C dL_older_34 1 rfl ?_
      refine V_iload_n C dL_older_35 2 rfl ?_
      obtain ⟨hJt, hJf⟩ := hJ
      refine V_icmp_ge C (tgt := 43) dL_older_36 rfl (fun hc7 => ?_) (fun hc7 => ?_)
      · have hJ := hJt hc7; clear hJt hJf
        refine V_iconst (v := 0) C dL_older_43 ci_0 ?_
        exact V_zret C hr hlocks (Or.inl rfl) dL_older_44 hJ
      · have hJ := hJf hc7; clear hJt hJf
        refine V_iconst (v := 1) C dL_older_39 ci_1 ?_
        refine V_goto C (tgt := 44) dL_older_40 rfl ?_
        exact V_zret C hr hlocks (Or.inr rfl) dL_older_44 hJ
set_option maxHeartbeats 4000000 in
set_option maxRecDepth 100000 in
theorem M_L_sound (l : Launch) (D : va_G) (tc : Nat → ClassId) (ad : Oid → Nat) (A : Nat → Prop) {σ : Mem} {Qr : Int32 → Mem → Prop} (hJ : J_L_sound σ Qr) : Met l yL_sound wsL_sound ({ frames := 6, cells := 0, slots := 0, locals := 138 }) (va_Pc [.ref (ad (0, 0, 0)), .ref (ad (16, 0, 0)), .ref (ad (17, 0, 0)), .ref (ad (18, 0, 0))] (WdI D vwCl (tysX tc) idsX ad (ceX tc ad) A σ)) (va_Qi (fun (r : Int32) (u : Mem) => Qr r u) (WdO D vwCl idsX ad (ceX tc ad) A) A) 0 0 A := by
  refine V_meti (cc := cL_sound) (nL := 10) (ret := (some .boolean)) (own := RL) rfl (plainFor_of_name (by decide)) rfl rfl (Nat.le_of_ble_eq_true rfl) ?_
  intro p e s m below meth c C hr hlocks
  refine V_sub (lv' := [(0, .ref (ad (0, 0, 0))), (1, .ref (ad (16, 0, 0))), (2, .ref (ad (17, 0, 0))), (3, .ref (ad (18, 0, 0)))]) [0, 1, 2, 3] rfl ?_
  have B295 : ∀ (b4 : Int32) (b5 : Int32) (b6 : Int32) (τ : Mem), J_L_sound_b295   b4 b5 b6 τ Qr → VV p l e (headSpec wsL_sound ({ frames := 6, cells := 0, slots := 0, locals := 138 })).room s m ([.ref (ad (0, 0, 0)), .ref (ad (16, 0, 0)), .ref (ad (17, 0, 0)), .ref (ad (18, 0, 0))] : List Value).toArray below meth c D vwCl idsX ad (ceX tc ad) A (MQ below (va_Qi (fun (r : Int32) (u : Mem) => Qr r u) (WdO D vwCl idsX ad (ceX tc ad) A) A) ([.ref (ad (0, 0, 0)), .ref (ad (16, 0, 0)), .ref (ad (17, 0, 0)), .ref (ad (18, 0, 0))] : List Value).toArray s 0 0 A) 10 (0, 0) 295 [(0, .ref (ad (0, 0, 0))), (3, .ref (ad (18, 0, 0))), (4, .int b4), (5, .int b5), (6, .int b6)] [] τ := by
    intro b4 b5 b6 τ hJ
    unfold J_L_sound_b295 at hJ
    refine V_iload C dL_sound_295 4 rfl ?_
    obtain ⟨hJt, hJf⟩ := hJ
    refine V_if_eq C (tgt := 341) dL_sound_297 rfl (fun hc7 => ?_) (fun hc7 => ?_)
    · have hJ := hJt hc7; clear hJt hJf
      refine V_iconst (v := 0) C dL_sound_341 ci_0 ?_
      exact V_zret C hr hlocks (Or.inl rfl) dL_sound_342 hJ
    · have hJ := hJf hc7; clear hJt hJf
      refine V_aload_n C dL_sound_300 0 rfl ?_
      refine V_iconst (v := 0) C dL_sound_301 ci_0 ?_
      refine V_cVi (st := []) (ci := 5) C okX_0_0 ⟨Nat.zero_le _, Nat.zero_le _⟩ (M_X5_inflow l D tc ad A 0 hJ) (cwV 1 C.1.2.2.2.2 gL_sound_X5_inflow rfl rfl rfl (by decide +kernel) ⟨Nat.le_of_ble_eq_true rfl, Nat.le_of_ble_eq_true rfl⟩) rfl rfl rfl rfl (Nat.le_of_ble_eq_true rfl) dL_sound_302 (fun r8 τ8 hJ => ?_)
      refine V_iload C dL_sound_305 2 rfl ?_
      refine V_iload C dL_sound_307 3 rfl ?_
      refine V_iadd C dL_sound_309 ?_
      obtain ⟨hJt, hJf⟩ := hJ
      refine V_icmp_ne C (tgt := 341) dL_sound_310 rfl (fun hc9 => ?_) (fun hc9 => ?_)
      · have hJ := hJt hc9; clear hJt hJf
        refine V_iconst (v := 0) C dL_sound_341 ci_0 ?_
        exact V_zret C hr hlocks (Or.inl rfl) dL_sound_342 hJ
      · have hJ := hJf hc9; clear hJt hJf
        refine V_aload_n C dL_sound_313 0 rfl ?_
        refine V_aload_n C dL_sound_314 1 rfl ?_
        refine V_iconst (v := 1) C dL_sound_315 ci_1 ?_
        refine V_iald C okX_18_0 0 rfl rfl ix_1 vpc_1_4 dL_sound_316 ?_
        refine V_cVi (st := []) (ci := 5) C okX_0_0 ⟨Nat.zero_le _, Nat.zero_le _⟩ (M_X5_limit l D tc ad A (τ8 (18, 0, 0) 1) hJ) (cwV 1 C.1.2.2.2.2 gL_sound_X5_limit rfl rfl rfl (by decide +kernel) ⟨Nat.le_of_ble_eq_true rfl, Nat.le_of_ble_eq_true rfl⟩) rfl rfl rfl rfl (Nat.le_of_ble_eq_true rfl) dL_sound_317 (fun r10 τ10 hJ => ?_)
        refine V_bipush (v := (-101)) C dL_sound_320 cb_m101 ?_
        obtain ⟨hJt, hJf⟩ := hJ
        refine V_icmp_ne C (tgt := 341) dL_sound_322 rfl (fun hc11 => ?_) (fun hc11 => ?_)
        · have hJ := hJt hc11; clear hJt hJf
          refine V_iconst (v := 0) C dL_sound_341 ci_0 ?_
          exact V_zret C hr hlocks (Or.inl rfl) dL_sound_342 hJ
        · have hJ := hJf hc11; clear hJt hJf
          refine V_aload_n C dL_sound_325 0 rfl ?_
          refine V_aload_n C dL_sound_326 1 rfl ?_
          refine V_iconst (v := 0) C dL_sound_327 ci_0 ?_
          refine V_iald C okX_18_0 0 rfl rfl ix_0 vpc_0_4 dL_sound_328 ?_
          refine V_cVi (st := []) (ci := 5) C okX_0_0 ⟨Nat.zero_le _, Nat.zero_le _⟩ (M_X5_usefulGate l D tc ad A (τ10 (18, 0, 0) 0) hJ) (cwV 1 C.1.2.2.2.2 gL_sound_X5_usefulGate rfl rfl rfl (by decide +kernel) ⟨Nat.le_of_ble_eq_true rfl, Nat.le_of_ble_eq_true rfl⟩) rfl rfl rfl rfl (Nat.le_of_ble_eq_true rfl) dL_sound_329 (fun r12 τ12 hJ => ?_)
          refine V_bipush (v := (-101)) C dL_sound_332 cb_m101 ?_
          obtain ⟨hJt, hJf⟩ := hJ
          refine V_icmp_ne C (tgt := 341) dL_sound_334 rfl (fun hc13 => ?_) (fun hc13 => ?_)
          · have hJ := hJt hc13; clear hJt hJf
            refine V_iconst (v := 0) C dL_sound_341 ci_0 ?_
            exact V_zret C hr hlocks (Or.inl rfl) dL_sound_342 hJ
          · have hJ := hJf hc13; clear hJt hJf
            refine V_iconst (v := 1) C dL_sound_337 ci_1 ?_
            refine V_goto C (tgt := 342) dL_sound_338 rfl ?_
            exact V_zret C hr hlocks (Or.inr rfl) dL_sound_342 hJ
  have B116 : ∀ (b4 : Int32) (b5 : Int32) (b6 : Int32) (τ : Mem), J_L_sound_b116   b4 b5 b6 τ Qr → VV p l e (headSpec wsL_sound ({ frames := 6, cells := 0, slots := 0, locals := 138 })).room s m ([.ref (ad (0, 0, 0)), .ref (ad (16, 0, 0)), .ref (ad (17, 0, 0)), .ref (ad (18, 0, 0))] : List Value).toArray below meth c D vwCl idsX ad (ceX tc ad) A (MQ below (va_Qi (fun (r : Int32) (u : Mem) => Qr r u) (WdO D vwCl idsX ad (ceX tc ad) A) A) ([.ref (ad (0, 0, 0)), .ref (ad (16, 0, 0)), .ref (ad (17, 0, 0)), .ref (ad (18, 0, 0))] : List Value).toArray s 0 0 A) 10 (0, 0) 116 [(0, .ref (ad (0, 0, 0))), (2, .ref (ad (17, 0, 0))), (3, .ref (ad (18, 0, 0))), (4, .int b4), (5, .int b5), (6, .int b6)] [] τ := by
    intro b4 b5 b6 τ hJ
    unfold J_L_sound_b116 at hJ
    refine V_iconst (v := 0) C dL_sound_116 ci_0 ?_
    refine V_istore (lv' := [(7, .int 0), (0, .ref (ad (0, 0, 0))), (2, .ref (ad (17, 0, 0))), (3, .ref (ad (18, 0, 0))), (4, .int b4), (5, .int b5), (6, .int b6)]) C dL_sound_117 (by decide) rfl ?_
    refine V_sub (lv' := [(0, .ref (ad (0, 0, 0))), (2, .ref (ad (17, 0, 0))), (3, .ref (ad (18, 0, 0))), (4, .int b4), (5, .int b5), (6, .int b6), (7, .int 0)]) [1, 2, 3, 4, 5, 6, 0] rfl ?_
    obtain ⟨I119, μ119, hI119, hst119⟩ := hJ
    have L119 : ∀ (n : Nat) (x5_5 : Int32) (x6_5 : Int32) (x7_5 : Int32) (τ5 : Mem), μ119 x5_5 x6_5 x7_5 τ5 < n → I119 x5_5 x6_5 x7_5 τ5 → VV p l e (headSpec wsL_sound ({ frames := 6, cells := 0, slots := 0, locals := 138 })).room s m ([.ref (ad (0, 0, 0)), .ref (ad (16, 0, 0)), .ref (ad (17, 0, 0)), .ref (ad (18, 0, 0))] : List Value).toArray below meth c D vwCl idsX ad (ceX tc ad) A (MQ below (va_Qi (fun (r : Int32) (u : Mem) => Qr r u) (WdO D vwCl idsX ad (ceX tc ad) A) A) ([.ref (ad (0, 0, 0)), .ref (ad (16, 0, 0)), .ref (ad (17, 0, 0)), .ref (ad (18, 0, 0))] : List Value).toArray s 0 0 A) 10 (0, 0) 119 [(0, .ref (ad (0, 0, 0))), (2, .ref (ad (17, 0, 0))), (3, .ref (ad (18, 0, 0))), (4, .int b4), (5, .int x5_5), (6, .int x6_5), (7, .int x7_5)] [] τ5 := by
      intro n
      induction n with
      | zero => intro x5_5 x6_5 x7_5 τ5 hμ _; exact absurd hμ (Nat.not_lt_zero _)
      | succ n ihn =>
        intro x5_5 x6_5 x7_5 τ5 hμ119 hJ
        have ih119 := ihn
        replace hJ := hst119 x5_5 x6_5 x7_5 τ5 hJ
        have B249 : ∀ (b5 : Int32) (b7 : Int32) (t0 : Int32) (τ : Mem), J_L_sound_b249 b4 (fun z0 z1 z2 z3 => I119 z0 z1 z2 z3 ∧ μ119 z0 z1 z2 z3 < μ119 x5_5 x6_5 x7_5 τ5) b5 b7 t0 τ Qr → VV p l e (headSpec wsL_sound ({ frames := 6, cells := 0, slots := 0, locals := 138 })).room s m ([.ref (ad (0, 0, 0)), .ref (ad (16, 0, 0)), .ref (ad (17, 0, 0)), .ref (ad (18, 0, 0))] : List Value).toArray below meth c D vwCl idsX ad (ceX tc ad) A (MQ below (va_Qi (fun (r : Int32) (u : Mem) => Qr r u) (WdO D vwCl idsX ad (ceX tc ad) A) A) ([.ref (ad (0, 0, 0)), .ref (ad (16, 0, 0)), .ref (ad (17, 0, 0)), .ref (ad (18, 0, 0))] : List Value).toArray s 0 0 A) 10 (0, 0) 249 [(0, .ref (ad (0, 0, 0))), (2, .ref (ad (17, 0, 0))), (3, .ref (ad (18, 0, 0))), (4, .int b4), (5, .int b5), (7, .int b7)] [.int t0] τ := by
          intro b5 b7 t0 τ hJ
          unfold J_L_sound_b249 at hJ
          refine V_istore (lv' := [(6, .int t0), (0, .ref (ad (0, 0, 0))), (2, .ref (ad (17, 0, 0))), (3, .ref (ad (18, 0, 0))), (4, .int b4), (5, .int b5), (7, .int b7)]) C dL_sound_249 (by decide) rfl ?_
          refine V_iload C dL_sound_251 0 rfl ?_
          obtain ⟨hJt, hJf⟩ := hJ
          refine V_if_eq C (tgt := 286) dL_sound_253 rfl (fun hc23 => ?_) (fun hc23 => ?_)
          · have hJ := hJt hc23; clear hJt hJf
            refine V_iconst (v := 0) C dL_sound_286 ci_0 ?_
            refine V_istore (lv' := [(6, .int 0), (0, .ref (ad (0, 0, 0))), (2, .ref (ad (17, 0, 0))), (3, .ref (ad (18, 0, 0))), (4, .int b4), (5, .int b5), (7, .int b7)]) C dL_sound_287 (by decide) rfl ?_
            obtain ⟨x7_24, hx7_24⟩ : ∃ y : Int32, y = b7 + 1 := ⟨_, rfl⟩
            replace hJ := hJ x7_24 hx7_24
            refine V_iinc (v := x7_24) (lv' := [(7, .int x7_24), (6, .int 0), (0, .ref (ad (0, 0, 0))), (2, .ref (ad (17, 0, 0))), (3, .ref (ad (18, 0, 0))), (4, .int b4), (5, .int b5)]) C dL_sound_289 6 rfl (by rw [hx7_24]; exact congrArg _ ci_1) (by decide) rfl ?_
            refine V_goto C (tgt := 119) dL_sound_292 rfl ?_
            refine V_sub (lv' := [(0, .ref (ad (0, 0, 0))), (2, .ref (ad (17, 0, 0))), (3, .ref (ad (18, 0, 0))), (4, .int b4), (5, .int b5), (6, .int 0), (7, .int x7_24)]) [2, 3, 4, 5, 6, 1, 0] rfl ?_
            exact ih119 b5 0 x7_24 τ (Nat.lt_of_lt_of_le hJ.2 (Nat.le_of_lt_succ hμ119)) hJ.1
          · have hJ := hJf hc23; clear hJt hJf
            refine V_iload C dL_sound_256 6 rfl ?_
            obtain ⟨hJt, hJf⟩ := hJ
            refine V_if_eq C (tgt := 282) dL_sound_258 rfl (fun hc25 => ?_) (fun hc25 => ?_)
            · have hJ := hJt hc25; clear hJt hJf
              refine V_iconst (v := 1) C dL_sound_282 ci_1 ?_
              refine V_goto C (tgt := 287) dL_sound_283 rfl ?_
              refine V_istore (lv' := [(6, .int 1), (0, .ref (ad (0, 0, 0))), (2, .ref (ad (17, 0, 0))), (3, .ref (ad (18, 0, 0))), (4, .int b4), (5, .int b5), (7, .int b7)]) C dL_sound_287 (by decide) rfl ?_
              obtain ⟨x7_26, hx7_26⟩ : ∃ y : Int32, y = b7 + 1 := ⟨_, rfl⟩
              replace hJ := hJ x7_26 hx7_26
              refine V_iinc (v := x7_26) (lv' := [(7, .int x7_26), (6, .int 1), (0, .ref (ad (0, 0, 0))), (2, .ref (ad (17, 0, 0))), (3, .ref (ad (18, 0, 0))), (4, .int b4), (5, .int b5)]) C dL_sound_289 6 rfl (by rw [hx7_26]; exact congrArg _ ci_1) (by decide) rfl ?_
              refine V_goto C (tgt := 119) dL_sound_292 rfl ?_
              refine V_sub (lv' := [(0, .ref (ad (0, 0, 0))), (2, .ref (ad (17, 0, 0))), (3, .ref (ad (18, 0, 0))), (4, .int b4), (5, .int b5), (6, .int 1), (7, .int x7_26)]) [2, 3, 4, 5, 6, 1, 0] rfl ?_
              exact ih119 b5 1 x7_26 τ (Nat.lt_of_lt_of_le hJ.2 (Nat.le_of_lt_succ hμ119)) hJ.1
            · have hJ := hJf hc25; clear hJt hJf
              refine V_aload_n C dL_sound_261 2 rfl ?_
              refine V_aload_n C dL_sound_262 1 rfl ?_
              refine V_iload C dL_sound_263 6 rfl ?_
              refine V_iconst (v := 1) C dL_sound_265 ci_1 ?_
              refine V_isub C dL_sound_266 ?_
              refine V_cVi (st := [.ref (ad (17, 0, 0))]) (ci := 5) C okX_0_0 ⟨Nat.zero_le _, Nat.zero_le _⟩ (M_X5_userByAge l D tc ad A (b7 - 1) hJ) (cwV 1 C.1.2.2.2.2 gL_sound_X5_userByAge rfl rfl rfl (by decide +kernel) ⟨Nat.le_of_ble_eq_true rfl, Nat.le_of_ble_eq_true rfl⟩) rfl rfl rfl rfl (Nat.le_of_ble_eq_true rfl) dL_sound_267 (fun r27 τ27 hJ => ?_)
              refine V_aload_n C dL_sound_270 1 rfl ?_
              refine V_iload C dL_sound_271 6 rfl ?_
              refine V_cVi (st := [.int r27, .ref (ad (17, 0, 0))]) (ci := 5) C okX_0_0 ⟨Nat.zero_le _, Nat.zero_le _⟩ (M_X5_userByAge l D tc ad A b7 hJ) (cwV 1 C.1.2.2.2.2 gL_sound_X5_userByAge rfl rfl rfl (by decide +kernel) ⟨Nat.le_of_ble_eq_true rfl, Nat.le_of_ble_eq_true rfl⟩) rfl rfl rfl rfl (Nat.le_of_ble_eq_true rfl) dL_sound_273 (fun r28 τ28 hJ => ?_)
              refine V_cSi (st := []) C ⟨Nat.zero_le _, Nat.zero_le _⟩ (M_L_older l D tc ad A r27 r28 hJ) (va_cwS 3 C.1.2.2.2.2 gL_sound_L_older rfl rfl rfl (by decide +kernel) ⟨Nat.le_of_ble_eq_true rfl, Nat.le_of_ble_eq_true rfl⟩) rfl rfl (Nat.le_of_ble_eq_true rfl) dL_sound_276 (fun r29 τ29 hJ => ?_)
              obtain ⟨hJt, hJf⟩ := hJ
              refine V_if_eq C (tgt := 286) dL_sound_279 rfl (fun hc30 => ?_) (fun hc30 => ?_)
              · have hJ := hJt hc30; clear hJt hJf
                refine V_iconst (v := 0) C dL_sound_286 ci_0 ?_
                refine V_istore (lv' := [(6, .int 0), (0, .ref (ad (0, 0, 0))), (2, .ref (ad (17, 0, 0))), (3, .ref (ad (18, 0, 0))), (4, .int b4), (5, .int b5), (7, .int b7)]) C dL_sound_287 (by decide) rfl ?_
                obtain ⟨x7_31, hx7_31⟩ : ∃ y : Int32, y = b7 + 1 := ⟨_, rfl⟩
                replace hJ := hJ x7_31 hx7_31
                refine V_iinc (v := x7_31) (lv' := [(7, .int x7_31), (6, .int 0), (0, .ref (ad (0, 0, 0))), (2, .ref (ad (17, 0, 0))), (3, .ref (ad (18, 0, 0))), (4, .int b4), (5, .int b5)]) C dL_sound_289 6 rfl (by rw [hx7_31]; exact congrArg _ ci_1) (by decide) rfl ?_
                refine V_goto C (tgt := 119) dL_sound_292 rfl ?_
                refine V_sub (lv' := [(0, .ref (ad (0, 0, 0))), (2, .ref (ad (17, 0, 0))), (3, .ref (ad (18, 0, 0))), (4, .int b4), (5, .int b5), (6, .int 0), (7, .int x7_31)]) [2, 3, 4, 5, 6, 1, 0] rfl ?_
                exact ih119 b5 0 x7_31 τ29 (Nat.lt_of_lt_of_le hJ.2 (Nat.le_of_lt_succ hμ119)) hJ.1
              · have hJ := hJf hc30; clear hJt hJf
                refine V_iconst (v := 1) C dL_sound_282 ci_1 ?_
                refine V_goto C (tgt := 287) dL_sound_283 rfl ?_
                refine V_istore (lv' := [(6, .int 1), (0, .ref (ad (0, 0, 0))), (2, .ref (ad (17, 0, 0))), (3, .ref (ad (18, 0, 0))), (4, .int b4), (5, .int b5), (7, .int b7)]) C dL_sound_287 (by decide) rfl ?_
                obtain ⟨x7_32, hx7_32⟩ : ∃ y : Int32, y = b7 + 1 := ⟨_, rfl⟩
                replace hJ := hJ x7_32 hx7_32
                refine V_iinc (v := x7_32) (lv' := [(7, .int x7_32), (6, .int 1), (0, .ref (ad (0, 0, 0))), (2, .ref (ad (17, 0, 0))), (3, .ref (ad (18, 0, 0))), (4, .int b4), (5, .int b5)]) C dL_sound_289 6 rfl (by rw [hx7_32]; exact congrArg _ ci_1) (by decide) rfl ?_
                refine V_goto C (tgt := 119) dL_sound_292 rfl ?_
                refine V_sub (lv' := [(0, .ref (ad (0, 0, 0))), (2, .ref (ad (17, 0, 0))), (3, .ref (ad (18, 0, 0))), (4, .int b4), (5, .int b5), (6, .int 1), (7, .int x7_32)]) [2, 3, 4, 5, 6, 1, 0] rfl ?_
                exact ih119 b5 1 x7_32 τ29 (Nat.lt_of_lt_of_le hJ.2 (Nat.le_of_lt_succ hμ119)) hJ.1
        have B211 : ∀ (b5 : Int32) (b7 : Int32) (b8 : Int32) (t0 : Int32) (t1 : Int32) (τ : Mem), J_L_sound_b211 b4 (fun z0 z1 z2 z3 => I119 z0 z1 z2 z3 ∧ μ119 z0 z1 z2 z3 < μ119 x5_5 x6_5 x7_5 τ5) b5 b7 b8 t0 t1 τ Qr → VV p l e (headSpec wsL_sound ({ frames := 6, cells := 0, slots := 0, locals := 138 })).room s m ([.ref (ad (0, 0, 0)), .ref (ad (16, 0, 0)), .ref (ad (17, 0, 0)), .ref (ad (18, 0, 0))] : List Value).toArray below meth c D vwCl idsX ad (ceX tc ad) A (MQ below (va_Qi (fun (r : Int32) (u : Mem) => Qr r u) (WdO D vwCl idsX ad (ceX tc ad) A) A) ([.ref (ad (0, 0, 0)), .ref (ad (16, 0, 0)), .ref (ad (17, 0, 0)), .ref (ad (18, 0, 0))] : List Value).toArray s 0 0 A) 10 (0, 0) 211 [(0, .ref (ad (0, 0, 0))), (2, .ref (ad (17, 0, 0))), (3, .ref (ad (18, 0, 0))), (4, .int b4), (5, .int b5), (7, .int b7), (8, .int b8)] [.int t0, .int t1] τ := by
          intro b5 b7 b8 t0 t1 τ hJ
          unfold J_L_sound_b211 at hJ
          obtain ⟨hJt, hJf⟩ := hJ
          refine V_icmp_ne C (tgt := 248) dL_sound_211 rfl (fun hc37 => ?_) (fun hc37 => ?_)
          · have hJ := hJt hc37; clear hJt hJf
            refine V_iconst (v := 0) C dL_sound_248 ci_0 ?_
            refine V_sub (lv' := [(0, .ref (ad (0, 0, 0))), (2, .ref (ad (17, 0, 0))), (3, .ref (ad (18, 0, 0))), (4, .int b4), (5, .int b5), (7, .int b7)]) [0, 1, 2, 3, 4, 5] rfl ?_
            exact B249 b5 b7 0 τ hJ
          · have hJ := hJf hc37; clear hJt hJf
            refine V_iload C dL_sound_214 6 rfl ?_
            obtain ⟨hJt, hJf⟩ := hJ
            refine V_if_ge C (tgt := 236) dL_sound_216 rfl (fun hc38 => ?_) (fun hc38 => ?_)
            · have hJ := hJt hc38; clear hJt hJf
              refine V_iload C dL_sound_236 6 rfl ?_
              refine V_aload_n C dL_sound_238 2 rfl ?_
              refine V_iconst (v := 0) C dL_sound_239 ci_0 ?_
              refine V_iald C okX_18_0 0 rfl rfl ix_0 vpc_0_4 dL_sound_240 ?_
              obtain ⟨hJt, hJf⟩ := hJ
              refine V_icmp_ge C (tgt := 248) dL_sound_241 rfl (fun hc39 => ?_) (fun hc39 => ?_)
              · have hJ := hJt hc39; clear hJt hJf
                refine V_iconst (v := 0) C dL_sound_248 ci_0 ?_
                refine V_sub (lv' := [(0, .ref (ad (0, 0, 0))), (2, .ref (ad (17, 0, 0))), (3, .ref (ad (18, 0, 0))), (4, .int b4), (5, .int b5), (7, .int b7)]) [0, 1, 2, 3, 4, 5] rfl ?_
                exact B249 b5 b7 0 τ hJ
              · have hJ := hJf hc39; clear hJt hJf
                refine V_iconst (v := 1) C dL_sound_244 ci_1 ?_
                refine V_goto C (tgt := 249) dL_sound_245 rfl ?_
                refine V_sub (lv' := [(0, .ref (ad (0, 0, 0))), (2, .ref (ad (17, 0, 0))), (3, .ref (ad (18, 0, 0))), (4, .int b4), (5, .int b5), (7, .int b7)]) [0, 1, 2, 3, 4, 5] rfl ?_
                exact B249 b5 b7 1 τ hJ
            · have hJ := hJf hc38; clear hJt hJf
              refine V_iload C dL_sound_219 6 rfl ?_
              refine V_bipush (v := (-103)) C dL_sound_221 cb_m103 ?_
              obtain ⟨hJt, hJf⟩ := hJ
              refine V_icmp_eq C (tgt := 244) dL_sound_223 rfl (fun hc40 => ?_) (fun hc40 => ?_)
              · have hJ := hJt hc40; clear hJt hJf
                refine V_iconst (v := 1) C dL_sound_244 ci_1 ?_
                refine V_goto C (tgt := 249) dL_sound_245 rfl ?_
                refine V_sub (lv' := [(0, .ref (ad (0, 0, 0))), (2, .ref (ad (17, 0, 0))), (3, .ref (ad (18, 0, 0))), (4, .int b4), (5, .int b5), (7, .int b7)]) [0, 1, 2, 3, 4, 5] rfl ?_
                exact B249 b5 b7 1 τ hJ
              · have hJ := hJf hc40; clear hJt hJf
                refine V_iload C dL_sound_226 6 rfl ?_
                refine V_bipush (v := (-105)) C dL_sound_228 cb_m105 ?_
                obtain ⟨hJt, hJf⟩ := hJ
                refine V_icmp_ne C (tgt := 248) dL_sound_230 rfl (fun hc41 => ?_) (fun hc41 => ?_)
                · have hJ := hJt hc41; clear hJt hJf
                  refine V_iconst (v := 0) C dL_sound_248 ci_0 ?_
                  refine V_sub (lv' := [(0, .ref (ad (0, 0, 0))), (2, .ref (ad (17, 0, 0))), (3, .ref (ad (18, 0, 0))), (4, .int b4), (5, .int b5), (7, .int b7)]) [0, 1, 2, 3, 4, 5] rfl ?_
                  exact B249 b5 b7 0 τ hJ
                · have hJ := hJf hc41; clear hJt hJf
                  refine V_goto C (tgt := 244) dL_sound_233 rfl ?_
                  refine V_iconst (v := 1) C dL_sound_244 ci_1 ?_
                  refine V_goto C (tgt := 249) dL_sound_245 rfl ?_
                  refine V_sub (lv' := [(0, .ref (ad (0, 0, 0))), (2, .ref (ad (17, 0, 0))), (3, .ref (ad (18, 0, 0))), (4, .int b4), (5, .int b5), (7, .int b7)]) [0, 1, 2, 3, 4, 5] rfl ?_
                  exact B249 b5 b7 1 τ hJ
        have B171 : ∀ (b5 : Int32) (b7 : Int32) (b8 : Int32) (t0 : Int32) (τ : Mem), J_L_sound_b171 b4 (fun z0 z1 z2 z3 => I119 z0 z1 z2 z3 ∧ μ119 z0 z1 z2 z3 < μ119 x5_5 x6_5 x7_5 τ5) b5 b7 b8 t0 τ Qr → VV p l e (headSpec wsL_sound ({ frames := 6, cells := 0, slots := 0, locals := 138 })).room s m ([.ref (ad (0, 0, 0)), .ref (ad (16, 0, 0)), .ref (ad (17, 0, 0)), .ref (ad (18, 0, 0))] : List Value).toArray below meth c D vwCl idsX ad (ceX tc ad) A (MQ below (va_Qi (fun (r : Int32) (u : Mem) => Qr r u) (WdO D vwCl idsX ad (ceX tc ad) A) A) ([.ref (ad (0, 0, 0)), .ref (ad (16, 0, 0)), .ref (ad (17, 0, 0)), .ref (ad (18, 0, 0))] : List Value).toArray s 0 0 A) 10 (0, 0) 171 [(0, .ref (ad (0, 0, 0))), (2, .ref (ad (17, 0, 0))), (3, .ref (ad (18, 0, 0))), (4, .int b4), (5, .int b5), (7, .int b7), (8, .int b8)] [.int t0] τ := by
          intro b5 b7 b8 t0 τ hJ
          unfold J_L_sound_b171 at hJ
          refine V_istore (lv' := [(9, .int t0), (0, .ref (ad (0, 0, 0))), (2, .ref (ad (17, 0, 0))), (3, .ref (ad (18, 0, 0))), (4, .int b4), (5, .int b5), (7, .int b7), (8, .int b8)]) C dL_sound_171 (by decide) rfl ?_
          refine V_aload_n C dL_sound_173 1 rfl ?_
          refine V_iload C dL_sound_174 6 rfl ?_
          refine V_cVi (st := []) (ci := 5) C okX_0_0 ⟨Nat.zero_le _, Nat.zero_le _⟩ (M_X5_gets l D tc ad A b7 hJ) (cwV 1 C.1.2.2.2.2 gL_sound_X5_gets rfl rfl rfl (by decide +kernel) ⟨Nat.le_of_ble_eq_true rfl, Nat.le_of_ble_eq_true rfl⟩) rfl rfl rfl rfl (Nat.le_of_ble_eq_true rfl) dL_sound_176 (fun r21 τ21 hJ => ?_)
          obtain ⟨hJt, hJf⟩ := hJ
          refine V_if_lt C (tgt := 248) dL_sound_179 rfl (fun hc22 => ?_) (fun hc22 => ?_)
          · have hJ := hJt hc22; clear hJt hJf
            refine V_iconst (v := 0) C dL_sound_248 ci_0 ?_
            refine V_sub (lv' := [(0, .ref (ad (0, 0, 0))), (2, .ref (ad (17, 0, 0))), (3, .ref (ad (18, 0, 0))), (4, .int b4), (5, .int b5), (7, .int b7)]) [1, 2, 3, 4, 5, 6] rfl ?_
            exact B249 b5 b7 0 τ21 hJ
          · have hJ := hJf hc22; clear hJt hJf
            refine V_aload_n C dL_sound_182 1 rfl ?_
            refine V_iload C dL_sound_183 6 rfl ?_
            refine V_cVi (st := []) (ci := 5) C okX_0_0 ⟨Nat.zero_le _, Nat.zero_le _⟩ (M_X5_gets l D tc ad A b7 hJ) (cwV 1 C.1.2.2.2.2 gL_sound_X5_gets rfl rfl rfl (by decide +kernel) ⟨Nat.le_of_ble_eq_true rfl, Nat.le_of_ble_eq_true rfl⟩) rfl rfl rfl rfl (Nat.le_of_ble_eq_true rfl) dL_sound_185 (fun r33 τ33 hJ => ?_)
            refine V_aload_n C dL_sound_188 1 rfl ?_
            refine V_iload C dL_sound_189 6 rfl ?_
            refine V_cVi (st := [.int r33]) (ci := 5) C okX_0_0 ⟨Nat.zero_le _, Nat.zero_le _⟩ (M_X5_asks l D tc ad A b7 hJ) (cwV 1 C.1.2.2.2.2 gL_sound_X5_asks rfl rfl rfl (by decide +kernel) ⟨Nat.le_of_ble_eq_true rfl, Nat.le_of_ble_eq_true rfl⟩) rfl rfl rfl rfl (Nat.le_of_ble_eq_true rfl) dL_sound_191 (fun r34 τ34 hJ => ?_)
            obtain ⟨hJt, hJf⟩ := hJ
            refine V_icmp_gt C (tgt := 248) dL_sound_194 rfl (fun hc35 => ?_) (fun hc35 => ?_)
            · have hJ := hJt hc35; clear hJt hJf
              refine V_iconst (v := 0) C dL_sound_248 ci_0 ?_
              refine V_sub (lv' := [(0, .ref (ad (0, 0, 0))), (2, .ref (ad (17, 0, 0))), (3, .ref (ad (18, 0, 0))), (4, .int b4), (5, .int b5), (7, .int b7)]) [1, 2, 3, 4, 5, 6] rfl ?_
              exact B249 b5 b7 0 τ34 hJ
            · have hJ := hJf hc35; clear hJt hJf
              refine V_iload C dL_sound_197 0 rfl ?_
              refine V_iload C dL_sound_199 7 rfl ?_
              refine V_bipush (v := (-103)) C dL_sound_201 cb_m103 ?_
              obtain ⟨hJt, hJf⟩ := hJ
              refine V_icmp_ne C (tgt := 210) dL_sound_203 rfl (fun hc36 => ?_) (fun hc36 => ?_)
              · have hJ := hJt hc36; clear hJt hJf
                refine V_iconst (v := 0) C dL_sound_210 ci_0 ?_
                refine V_sub (lv' := [(0, .ref (ad (0, 0, 0))), (2, .ref (ad (17, 0, 0))), (3, .ref (ad (18, 0, 0))), (4, .int b4), (5, .int b5), (7, .int b7), (8, .int b8)]) [1, 2, 3, 4, 5, 6, 7] rfl ?_
                exact B211 b5 b7 b8 0 t0 τ34 hJ
              · have hJ := hJf hc36; clear hJt hJf
                refine V_iconst (v := 1) C dL_sound_206 ci_1 ?_
                refine V_goto C (tgt := 211) dL_sound_207 rfl ?_
                refine V_sub (lv' := [(0, .ref (ad (0, 0, 0))), (2, .ref (ad (17, 0, 0))), (3, .ref (ad (18, 0, 0))), (4, .int b4), (5, .int b5), (7, .int b7), (8, .int b8)]) [1, 2, 3, 4, 5, 6, 7] rfl ?_
                exact B211 b5 b7 b8 1 t0 τ34 hJ
        refine V_iload C dL_sound_119 6 rfl ?_
        refine V_aload_n C dL_sound_121 2 rfl ?_
        refine V_iconst (v := 1) C dL_sound_122 ci_1 ?_
        refine V_iald C okX_18_0 0 rfl rfl ix_1 vpc_1_4 dL_sound_123 ?_
        obtain ⟨hJt, hJf⟩ := hJ
        refine V_icmp_ge C (tgt := 295) dL_sound_124 rfl (fun hc6 => ?_) (fun hc6 => ?_)
        · have hJ := hJt hc6; clear hJt hJf
          refine V_sub (lv' := [(0, .ref (ad (0, 0, 0))), (3, .ref (ad (18, 0, 0))), (4, .int b4), (5, .int x5_5), (6, .int x6_5)]) [0, 2, 3, 4, 5] rfl ?_
          exact B295 b4 x5_5 x6_5 τ5 hJ
        · have hJ := hJf hc6; clear hJt hJf
          refine V_iload C dL_sound_127 5 rfl ?_
          obtain ⟨hJt, hJf⟩ := hJ
          refine V_if_eq C (tgt := 295) dL_sound_129 rfl (fun hc14 => ?_) (fun hc14 => ?_)
          · have hJ := hJt hc14; clear hJt hJf
            refine V_sub (lv' := [(0, .ref (ad (0, 0, 0))), (3, .ref (ad (18, 0, 0))), (4, .int b4), (5, .int x5_5), (6, .int x6_5)]) [0, 2, 3, 4, 5] rfl ?_
            exact B295 b4 x5_5 x6_5 τ5 hJ
          · have hJ := hJf hc14; clear hJt hJf
            refine V_iload C dL_sound_132 4 rfl ?_
            refine V_aload_n C dL_sound_134 0 rfl ?_
            refine V_iload C dL_sound_135 6 rfl ?_
            refine V_cVi (st := [.int x5_5]) (ci := 5) C okX_0_0 ⟨Nat.zero_le _, Nat.zero_le _⟩ (M_X5_gets l D tc ad A x7_5 hJ) (cwV 1 C.1.2.2.2.2 gL_sound_X5_gets rfl rfl rfl (by decide +kernel) ⟨Nat.le_of_ble_eq_true rfl, Nat.le_of_ble_eq_true rfl⟩) rfl rfl rfl rfl (Nat.le_of_ble_eq_true rfl) dL_sound_137 (fun r15 τ15 hJ => ?_)
            refine V_iadd C dL_sound_140 ?_
            refine V_topi (fun x5_16 hx5_16 => ?_)
            replace hJ := hJ x5_16 hx5_16
            refine V_istore (lv' := [(5, .int x5_16), (0, .ref (ad (0, 0, 0))), (2, .ref (ad (17, 0, 0))), (3, .ref (ad (18, 0, 0))), (4, .int b4), (6, .int x6_5), (7, .int x7_5)]) C dL_sound_141 (by decide) rfl ?_
            refine V_aload_n C dL_sound_143 1 rfl ?_
            refine V_iload C dL_sound_144 6 rfl ?_
            refine V_cVi (st := []) (ci := 5) C okX_0_0 ⟨Nat.zero_le _, Nat.zero_le _⟩ (M_X5_limit l D tc ad A x7_5 hJ) (cwV 1 C.1.2.2.2.2 gL_sound_X5_limit rfl rfl rfl (by decide +kernel) ⟨Nat.le_of_ble_eq_true rfl, Nat.le_of_ble_eq_true rfl⟩) rfl rfl rfl rfl (Nat.le_of_ble_eq_true rfl) dL_sound_146 (fun r17 τ17 hJ => ?_)
            refine V_istore (lv' := [(8, .int r17), (5, .int x5_16), (0, .ref (ad (0, 0, 0))), (2, .ref (ad (17, 0, 0))), (3, .ref (ad (18, 0, 0))), (4, .int b4), (6, .int x6_5), (7, .int x7_5)]) C dL_sound_149 (by decide) rfl ?_
            refine V_aload_n C dL_sound_151 2 rfl ?_
            refine V_iload C dL_sound_152 7 rfl ?_
            refine V_cVi (st := []) (ci := 5) C okX_0_0 ⟨Nat.zero_le _, Nat.zero_le _⟩ (M_X5_gets l D tc ad A x7_5 hJ) (cwV 1 C.1.2.2.2.2 gL_sound_X5_gets rfl rfl rfl (by decide +kernel) ⟨Nat.le_of_ble_eq_true rfl, Nat.le_of_ble_eq_true rfl⟩) rfl rfl rfl rfl (Nat.le_of_ble_eq_true rfl) dL_sound_154 (fun r18 τ18 hJ => ?_)
            refine V_aload_n C dL_sound_157 2 rfl ?_
            refine V_iload C dL_sound_158 7 rfl ?_
            refine V_cVi (st := [.int r18]) (ci := 5) C okX_0_0 ⟨Nat.zero_le _, Nat.zero_le _⟩ (M_X5_asks l D tc ad A x7_5 hJ) (cwV 1 C.1.2.2.2.2 gL_sound_X5_asks rfl rfl rfl (by decide +kernel) ⟨Nat.le_of_ble_eq_true rfl, Nat.le_of_ble_eq_true rfl⟩) rfl rfl rfl rfl (Nat.le_of_ble_eq_true rfl) dL_sound_160 (fun r19 τ19 hJ => ?_)
            obtain ⟨hJt, hJf⟩ := hJ
            refine V_icmp_ne C (tgt := 170) dL_sound_163 rfl (fun hc20 => ?_) (fun hc20 => ?_)
            · have hJ := hJt hc20; clear hJt hJf
              refine V_iconst (v := 0) C dL_sound_170 ci_0 ?_
              refine V_sub (lv' := [(0, .ref (ad (0, 0, 0))), (2, .ref (ad (17, 0, 0))), (3, .ref (ad (18, 0, 0))), (4, .int b4), (5, .int x5_16), (7, .int x7_5), (8, .int r17)]) [2, 3, 4, 5, 1, 7, 0] rfl ?_
              exact B171 x5_16 x7_5 r17 0 τ19 hJ
            · have hJ := hJf hc20; clear hJt hJf
              refine V_iconst (v := 1) C dL_sound_166 ci_1 ?_
              refine V_goto C (tgt := 171) dL_sound_167 rfl ?_
              refine V_sub (lv' := [(0, .ref (ad (0, 0, 0))), (2, .ref (ad (17, 0, 0))), (3, .ref (ad (18, 0, 0))), (4, .int b4), (5, .int x5_16), (7, .int x7_5), (8, .int r17)]) [2, 3, 4, 5, 1, 7, 0] rfl ?_
              exact B171 x5_16 x7_5 r17 1 τ19 hJ
    exact L119 _ b5 b6 0 τ (Nat.lt_succ_self _) hI119
  have B22 : ∀ (b4 : Int32) (b5 : Int32) (t0 : Int32) (τ : Mem), J_L_sound_b22   b4 b5 t0 τ Qr → VV p l e (headSpec wsL_sound ({ frames := 6, cells := 0, slots := 0, locals := 138 })).room s m ([.ref (ad (0, 0, 0)), .ref (ad (16, 0, 0)), .ref (ad (17, 0, 0)), .ref (ad (18, 0, 0))] : List Value).toArray below meth c D vwCl idsX ad (ceX tc ad) A (MQ below (va_Qi (fun (r : Int32) (u : Mem) => Qr r u) (WdO D vwCl idsX ad (ceX tc ad) A) A) ([.ref (ad (0, 0, 0)), .ref (ad (16, 0, 0)), .ref (ad (17, 0, 0)), .ref (ad (18, 0, 0))] : List Value).toArray s 0 0 A) 10 (0, 0) 22 [(0, .ref (ad (0, 0, 0))), (1, .ref (ad (16, 0, 0))), (2, .ref (ad (17, 0, 0))), (3, .ref (ad (18, 0, 0))), (4, .int b4), (5, .int b5)] [.int t0] τ := by
    intro b4 b5 t0 τ hJ
    unfold J_L_sound_b22 at hJ
    refine V_istore (lv' := [(6, .int t0), (0, .ref (ad (0, 0, 0))), (1, .ref (ad (16, 0, 0))), (2, .ref (ad (17, 0, 0))), (3, .ref (ad (18, 0, 0))), (4, .int b4), (5, .int b5)]) C dL_sound_22 (by decide) rfl ?_
    refine V_iconst (v := 0) C dL_sound_24 ci_0 ?_
    refine V_istore (lv' := [(7, .int 0), (6, .int t0), (0, .ref (ad (0, 0, 0))), (1, .ref (ad (16, 0, 0))), (2, .ref (ad (17, 0, 0))), (3, .ref (ad (18, 0, 0))), (4, .int b4), (5, .int b5)]) C dL_sound_25 (by decide) rfl ?_
    refine V_sub (lv' := [(0, .ref (ad (0, 0, 0))), (1, .ref (ad (16, 0, 0))), (2, .ref (ad (17, 0, 0))), (3, .ref (ad (18, 0, 0))), (4, .int b4), (5, .int b5), (6, .int t0), (7, .int 0)]) [2, 3, 4, 5, 6, 7, 1, 0] rfl ?_
    obtain ⟨I27, μ27, hI27, hst27⟩ := hJ
    have L27 : ∀ (n : Nat) (x4_3 : Int32) (x6_3 : Int32) (x7_3 : Int32) (τ3 : Mem), μ27 x4_3 x6_3 x7_3 τ3 < n → I27 x4_3 x6_3 x7_3 τ3 → VV p l e (headSpec wsL_sound ({ frames := 6, cells := 0, slots := 0, locals := 138 })).room s m ([.ref (ad (0, 0, 0)), .ref (ad (16, 0, 0)), .ref (ad (17, 0, 0)), .ref (ad (18, 0, 0))] : List Value).toArray below meth c D vwCl idsX ad (ceX tc ad) A (MQ below (va_Qi (fun (r : Int32) (u : Mem) => Qr r u) (WdO D vwCl idsX ad (ceX tc ad) A) A) ([.ref (ad (0, 0, 0)), .ref (ad (16, 0, 0)), .ref (ad (17, 0, 0)), .ref (ad (18, 0, 0))] : List Value).toArray s 0 0 A) 10 (0, 0) 27 [(0, .ref (ad (0, 0, 0))), (1, .ref (ad (16, 0, 0))), (2, .ref (ad (17, 0, 0))), (3, .ref (ad (18, 0, 0))), (4, .int x4_3), (5, .int b5), (6, .int x6_3), (7, .int x7_3)] [] τ3 := by
      intro n
      induction n with
      | zero => intro x4_3 x6_3 x7_3 τ3 hμ _; exact absurd hμ (Nat.not_lt_zero _)
      | succ n ihn =>
        intro x4_3 x6_3 x7_3 τ3 hμ27 hJ
        have ih27 := ihn
        replace hJ := hst27 x4_3 x6_3 x7_3 τ3 hJ
        refine V_iload C dL_sound_27 7 rfl ?_
        refine V_aload_n C dL_sound_29 3 rfl ?_
        refine V_iconst (v := 0) C dL_sound_30 ci_0 ?_
        refine V_iald C okX_18_0 0 rfl rfl ix_0 vpc_0_4 dL_sound_31 ?_
        obtain ⟨hJt, hJf⟩ := hJ
        refine V_icmp_ge C (tgt := 116) dL_sound_32 rfl (fun hc4 => ?_) (fun hc4 => ?_)
        · have hJ := hJt hc4; clear hJt hJf
          refine V_sub (lv' := [(0, .ref (ad (0, 0, 0))), (2, .ref (ad (17, 0, 0))), (3, .ref (ad (18, 0, 0))), (4, .int x4_3), (5, .int b5), (6, .int x6_3)]) [0, 2, 3, 4, 5, 6] rfl ?_
          exact B116 x4_3 b5 x6_3 τ3 hJ
        · have hJ := hJf hc4; clear hJt hJf
          refine V_iload C dL_sound_35 6 rfl ?_
          obtain ⟨hJt, hJf⟩ := hJ
          refine V_if_eq C (tgt := 116) dL_sound_37 rfl (fun hc42 => ?_) (fun hc42 => ?_)
          · have hJ := hJt hc42; clear hJt hJf
            refine V_sub (lv' := [(0, .ref (ad (0, 0, 0))), (2, .ref (ad (17, 0, 0))), (3, .ref (ad (18, 0, 0))), (4, .int x4_3), (5, .int b5), (6, .int x6_3)]) [0, 2, 3, 4, 5, 6] rfl ?_
            exact B116 x4_3 b5 x6_3 τ3 hJ
          · have hJ := hJf hc42; clear hJt hJf
            refine V_iload C dL_sound_40 4 rfl ?_
            refine V_aload_n C dL_sound_42 0 rfl ?_
            refine V_iload C dL_sound_43 7 rfl ?_
            refine V_cVi (st := [.int x4_3]) (ci := 5) C okX_0_0 ⟨Nat.zero_le _, Nat.zero_le _⟩ (M_X5_loses l D tc ad A x7_3 hJ) (cwV 1 C.1.2.2.2.2 gL_sound_X5_loses rfl rfl rfl (by decide +kernel) ⟨Nat.le_of_ble_eq_true rfl, Nat.le_of_ble_eq_true rfl⟩) rfl rfl rfl rfl (Nat.le_of_ble_eq_true rfl) dL_sound_45 (fun r43 τ43 hJ => ?_)
            refine V_iadd C dL_sound_48 ?_
            refine V_topi (fun x4_44 hx4_44 => ?_)
            replace hJ := hJ x4_44 hx4_44
            refine V_istore (lv' := [(4, .int x4_44), (0, .ref (ad (0, 0, 0))), (1, .ref (ad (16, 0, 0))), (2, .ref (ad (17, 0, 0))), (3, .ref (ad (18, 0, 0))), (5, .int b5), (6, .int x6_3), (7, .int x7_3)]) C dL_sound_49 (by decide) rfl ?_
            refine V_aload_n C dL_sound_51 1 rfl ?_
            refine V_iload C dL_sound_52 7 rfl ?_
            refine V_cVi (st := []) (ci := 5) C okX_0_0 ⟨Nat.zero_le _, Nat.zero_le _⟩ (M_X5_inflow l D tc ad A x7_3 hJ) (cwV 1 C.1.2.2.2.2 gL_sound_X5_inflow rfl rfl rfl (by decide +kernel) ⟨Nat.le_of_ble_eq_true rfl, Nat.le_of_ble_eq_true rfl⟩) rfl rfl rfl rfl (Nat.le_of_ble_eq_true rfl) dL_sound_54 (fun r45 τ45 hJ => ?_)
            refine V_istore (lv' := [(8, .int r45), (4, .int x4_44), (0, .ref (ad (0, 0, 0))), (1, .ref (ad (16, 0, 0))), (2, .ref (ad (17, 0, 0))), (3, .ref (ad (18, 0, 0))), (5, .int b5), (6, .int x6_3), (7, .int x7_3)]) C dL_sound_57 (by decide) rfl ?_
            refine V_iload C dL_sound_59 0 rfl ?_
            obtain ⟨hJt, hJf⟩ := hJ
            refine V_if_lt C (tgt := 107) dL_sound_61 rfl (fun hc46 => ?_) (fun hc46 => ?_)
            · have hJ := hJt hc46; clear hJt hJf
              refine V_iconst (v := 0) C dL_sound_107 ci_0 ?_
              refine V_istore (lv' := [(6, .int 0), (8, .int r45), (4, .int x4_44), (0, .ref (ad (0, 0, 0))), (1, .ref (ad (16, 0, 0))), (2, .ref (ad (17, 0, 0))), (3, .ref (ad (18, 0, 0))), (5, .int b5), (7, .int x7_3)]) C dL_sound_108 (by decide) rfl ?_
              obtain ⟨x7_47, hx7_47⟩ : ∃ y : Int32, y = x7_3 + 1 := ⟨_, rfl⟩
              replace hJ := hJ x7_47 hx7_47
              refine V_iinc (v := x7_47) (lv' := [(7, .int x7_47), (6, .int 0), (8, .int r45), (4, .int x4_44), (0, .ref (ad (0, 0, 0))), (1, .ref (ad (16, 0, 0))), (2, .ref (ad (17, 0, 0))), (3, .ref (ad (18, 0, 0))), (5, .int b5)]) C dL_sound_110 8 rfl (by rw [hx7_47]; exact congrArg _ ci_1) (by decide) rfl ?_
              refine V_goto C (tgt := 27) dL_sound_113 rfl ?_
              refine V_sub (lv' := [(0, .ref (ad (0, 0, 0))), (1, .ref (ad (16, 0, 0))), (2, .ref (ad (17, 0, 0))), (3, .ref (ad (18, 0, 0))), (4, .int x4_44), (5, .int b5), (6, .int 0), (7, .int x7_47)]) [4, 5, 6, 7, 3, 8, 1, 0] rfl ?_
              exact ih27 x4_44 0 x7_47 τ45 (Nat.lt_of_lt_of_le hJ.2 (Nat.le_of_lt_succ hμ27)) hJ.1
            · have hJ := hJf hc46; clear hJt hJf
              refine V_iload C dL_sound_64 0 rfl ?_
              refine V_aload_n C dL_sound_66 3 rfl ?_
              refine V_iconst (v := 3) C dL_sound_67 ci_3 ?_
              refine V_iload C dL_sound_68 8 rfl ?_
              refine V_imul C dL_sound_70 ?_
              refine V_iconst (v := 1) C dL_sound_71 ci_1 ?_
              refine V_iadd C dL_sound_72 ?_
              obtain ⟨hv48, hJ⟩ := hJ
              refine V_iald C okX_16_0 0 rfl rfl rfl hv48 dL_sound_73 ?_
              obtain ⟨hJt, hJf⟩ := hJ
              refine V_icmp_gt C (tgt := 107) dL_sound_74 rfl (fun hc49 => ?_) (fun hc49 => ?_)
              · have hJ := hJt hc49; clear hJt hJf
                refine V_iconst (v := 0) C dL_sound_107 ci_0 ?_
                refine V_istore (lv' := [(6, .int 0), (8, .int r45), (4, .int x4_44), (0, .ref (ad (0, 0, 0))), (1, .ref (ad (16, 0, 0))), (2, .ref (ad (17, 0, 0))), (3, .ref (ad (18, 0, 0))), (5, .int b5), (7, .int x7_3)]) C dL_sound_108 (by decide) rfl ?_
                obtain ⟨x7_50, hx7_50⟩ : ∃ y : Int32, y = x7_3 + 1 := ⟨_, rfl⟩
                replace hJ := hJ x7_50 hx7_50
                refine V_iinc (v := x7_50) (lv' := [(7, .int x7_50), (6, .int 0), (8, .int r45), (4, .int x4_44), (0, .ref (ad (0, 0, 0))), (1, .ref (ad (16, 0, 0))), (2, .ref (ad (17, 0, 0))), (3, .ref (ad (18, 0, 0))), (5, .int b5)]) C dL_sound_110 8 rfl (by rw [hx7_50]; exact congrArg _ ci_1) (by decide) rfl ?_
                refine V_goto C (tgt := 27) dL_sound_113 rfl ?_
                refine V_sub (lv' := [(0, .ref (ad (0, 0, 0))), (1, .ref (ad (16, 0, 0))), (2, .ref (ad (17, 0, 0))), (3, .ref (ad (18, 0, 0))), (4, .int x4_44), (5, .int b5), (6, .int 0), (7, .int x7_50)]) [4, 5, 6, 7, 3, 8, 1, 0] rfl ?_
                exact ih27 x4_44 0 x7_50 τ45 (Nat.lt_of_lt_of_le hJ.2 (Nat.le_of_lt_succ hμ27)) hJ.1
              · have hJ := hJf hc49; clear hJt hJf
                refine V_aload_n C dL_sound_77 2 rfl ?_
                refine V_iload C dL_sound_78 8 rfl ?_
                refine V_cVi (st := []) (ci := 5) C okX_0_0 ⟨Nat.zero_le _, Nat.zero_le _⟩ (M_X5_loses l D tc ad A x7_3 hJ) (cwV 1 C.1.2.2.2.2 gL_sound_X5_loses rfl rfl rfl (by decide +kernel) ⟨Nat.le_of_ble_eq_true rfl, Nat.le_of_ble_eq_true rfl⟩) rfl rfl rfl rfl (Nat.le_of_ble_eq_true rfl) dL_sound_80 (fun r51 τ51 hJ => ?_)
                refine V_iload C dL_sound_83 0 rfl ?_
                refine V_aload_n C dL_sound_85 3 rfl ?_
                refine V_iconst (v := 3) C dL_sound_86 ci_3 ?_
                refine V_iload C dL_sound_87 8 rfl ?_
                refine V_imul C dL_sound_89 ?_
                refine V_iconst (v := 2) C dL_sound_90 ci_2 ?_
                refine V_iadd C dL_sound_91 ?_
                obtain ⟨hv52, hJ⟩ := hJ
                refine V_iald C okX_16_0 0 rfl rfl rfl hv52 dL_sound_92 ?_
                refine V_imul C dL_sound_93 ?_
                refine V_bipush (v := 99) C dL_sound_94 cb_99 ?_
                refine V_iadd C dL_sound_96 ?_
                refine V_bipush (v := 100) C dL_sound_97 cb_100 ?_
                refine V_idiv C dL_sound_99 (by decide) ?_
                obtain ⟨hJt, hJf⟩ := hJ
                refine V_icmp_ne C (tgt := 107) dL_sound_100 rfl (fun hc53 => ?_) (fun hc53 => ?_)
                · have hJ := hJt hc53; clear hJt hJf
                  refine V_iconst (v := 0) C dL_sound_107 ci_0 ?_
                  refine V_istore (lv' := [(6, .int 0), (8, .int r45), (4, .int x4_44), (0, .ref (ad (0, 0, 0))), (1, .ref (ad (16, 0, 0))), (2, .ref (ad (17, 0, 0))), (3, .ref (ad (18, 0, 0))), (5, .int b5), (7, .int x7_3)]) C dL_sound_108 (by decide) rfl ?_
                  obtain ⟨x7_54, hx7_54⟩ : ∃ y : Int32, y = x7_3 + 1 := ⟨_, rfl⟩
                  replace hJ := hJ x7_54 hx7_54
                  refine V_iinc (v := x7_54) (lv' := [(7, .int x7_54), (6, .int 0), (8, .int r45), (4, .int x4_44), (0, .ref (ad (0, 0, 0))), (1, .ref (ad (16, 0, 0))), (2, .ref (ad (17, 0, 0))), (3, .ref (ad (18, 0, 0))), (5, .int b5)]) C dL_sound_110 8 rfl (by rw [hx7_54]; exact congrArg _ ci_1) (by decide) rfl ?_
                  refine V_goto C (tgt := 27) dL_sound_113 rfl ?_
                  refine V_sub (lv' := [(0, .ref (ad (0, 0, 0))), (1, .ref (ad (16, 0, 0))), (2, .ref (ad (17, 0, 0))), (3, .ref (ad (18, 0, 0))), (4, .int x4_44), (5, .int b5), (6, .int 0), (7, .int x7_54)]) [4, 5, 6, 7, 3, 8, 1, 0] rfl ?_
                  exact ih27 x4_44 0 x7_54 τ51 (Nat.lt_of_lt_of_le hJ.2 (Nat.le_of_lt_succ hμ27)) hJ.1
                · have hJ := hJf hc53; clear hJt hJf
                  refine V_iconst (v := 1) C dL_sound_103 ci_1 ?_
                  refine V_goto C (tgt := 108) dL_sound_104 rfl ?_
                  refine V_istore (lv' := [(6, .int 1), (8, .int r45), (4, .int x4_44), (0, .ref (ad (0, 0, 0))), (1, .ref (ad (16, 0, 0))), (2, .ref (ad (17, 0, 0))), (3, .ref (ad (18, 0, 0))), (5, .int b5), (7, .int x7_3)]) C dL_sound_108 (by decide) rfl ?_
                  obtain ⟨x7_55, hx7_55⟩ : ∃ y : Int32, y = x7_3 + 1 := ⟨_, rfl⟩
                  replace hJ := hJ x7_55 hx7_55
                  refine V_iinc (v := x7_55) (lv' := [(7, .int x7_55), (6, .int 1), (8, .int r45), (4, .int x4_44), (0, .ref (ad (0, 0, 0))), (1, .ref (ad (16, 0, 0))), (2, .ref (ad (17, 0, 0))), (3, .ref (ad (18, 0, 0))), (5, .int b5)]) C dL_sound_110 8 rfl (by rw [hx7_55]; exact congrArg _ ci_1) (by decide) rfl ?_
                  refine V_goto C (tgt := 27) dL_sound_113 rfl ?_
                  refine V_sub (lv' := [(0, .ref (ad (0, 0, 0))), (1, .ref (ad (16, 0, 0))), (2, .ref (ad (17, 0, 0))), (3, .ref (ad (18, 0, 0))), (4, .int x4_44), (5, .int b5), (6, .int 1), (7, .int x7_55)]) [4, 5, 6, 7, 3, 8, 1, 0] rfl ?_
                  exact ih27 x4_44 1 x7_55 τ51 (Nat.lt_of_lt_of_le hJ.2 (Nat.le_of_lt_succ hμ27)) hJ.1
    exact L27 _ b4 t0 0 τ (Nat.lt_succ_self _) hI27
  unfold J_L_sound at hJ
  refine V_iconst (v := 0) C dL_sound_0 ci_0 ?_
  refine V_istore (lv' := [(4, .int 0), (0, .ref (ad (0, 0, 0))), (1, .ref (ad (16, 0, 0))), (2, .ref (ad (17, 0, 0))), (3, .ref (ad (18, 0, 0)))]) C dL_sound_1 (by decide) rfl ?_
  refine V_iconst (v := 0) C dL_sound_3 ci_0 ?_
  refine V_istore (lv' := [(5, .int 0), (4, .int 0), (0, .ref (ad (0, 0, 0))), (1, .ref (ad (16, 0, 0))), (2, .ref (ad (17, 0, 0))), (3, .ref (ad (18, 0, 0)))]) C dL_sound_4 (by decide) rfl ?_
  refine V_aload_n C dL_sound_6 2 rfl ?_
  refine V_iconst (v := 0) C dL_sound_7 ci_0 ?_
  refine V_cVi (st := []) (ci := 5) C okX_0_0 ⟨Nat.zero_le _, Nat.zero_le _⟩ (M_X5_inflow l D tc ad A 0 hJ) (cwV 1 C.1.2.2.2.2 gL_sound_X5_inflow rfl rfl rfl (by decide +kernel) ⟨Nat.le_of_ble_eq_true rfl, Nat.le_of_ble_eq_true rfl⟩) rfl rfl rfl rfl (Nat.le_of_ble_eq_true rfl) dL_sound_8 (fun r1 τ1 hJ => ?_)
  refine V_aload_n C dL_sound_11 5 rfl ?_
  refine V_iconst (v := 2) C dL_sound_12 ci_2 ?_
  refine V_iald C okX_18_0 0 rfl rfl ix_2 vpc_2_4 dL_sound_13 ?_
  obtain ⟨hJt, hJf⟩ := hJ
  refine V_icmp_gt C (tgt := 21) dL_sound_14 rfl (fun hc2 => ?_) (fun hc2 => ?_)
  · have hJ := hJt hc2; clear hJt hJf
    refine V_iconst (v := 0) C dL_sound_21 ci_0 ?_
    refine V_sub (lv' := [(0, .ref (ad (0, 0, 0))), (1, .ref (ad (16, 0, 0))), (2, .ref (ad (17, 0, 0))), (3, .ref (ad (18, 0, 0))), (4, .int 0), (5, .int 0)]) [2, 3, 4, 5, 1, 0] rfl ?_
    exact B22 0 0 0 τ1 hJ
  · have hJ := hJf hc2; clear hJt hJf
    refine V_iconst (v := 1) C dL_sound_17 ci_1 ?_
    refine V_goto C (tgt := 22) dL_sound_18 rfl ?_
    refine V_sub (lv' := [(0, .ref (ad (0, 0, 0))), (1, .ref (ad (16, 0, 0))), (2, .ref (ad (17, 0, 0))), (3, .ref (ad (18, 0, 0))), (4, .int 0), (5, .int 0)]) [2, 3, 4, 5, 1, 0] rfl ?_
    exact B22 0 0 1 τ1 hJ
set_option maxHeartbeats 4000000 in
set_option maxRecDepth 100000 in
theorem M_L_refuses (l : Launch) (D : va_G) (tc : Nat → ClassId) (ad : Oid → Nat) (A : Nat → Prop) {σ : Mem} {Qr : Int32 → Mem → Prop} (hJ : J_L_refuses σ Qr) : Met l yL_refuses wsL_refuses ({ frames := 7, cells := 0, slots := 0, locals := 162 }) (va_Pc [.ref (ad (0, 0, 0)), .ref (ad (18, 0, 0))] (WdI D vwCl (tysX tc) idsX ad (ceX tc ad) A σ)) (va_Qi (fun (r : Int32) (u : Mem) => Qr r u) (WdO D vwCl idsX ad (ceX tc ad) A) A) 0 0 A := by
  refine V_meti (cc := cL_refuses) (nL := 5) (ret := (some .boolean)) (own := RL) rfl (plainFor_of_name (by decide)) rfl rfl (Nat.le_of_ble_eq_true rfl) ?_
  intro p e s m below meth c C hr hlocks
  refine V_sub (lv' := [(0, .ref (ad (0, 0, 0))), (1, .ref (ad (18, 0, 0)))]) [0, 1] rfl ?_
  have B276 : ∀ (c2 : Int64) (t0 : Int32) (τ : Mem), J_L_refuses_b276   c2 t0 τ Qr → VV p l e (headSpec wsL_refuses ({ frames := 7, cells := 0, slots := 0, locals := 162 })).room s m ([.ref (ad (0, 0, 0)), .ref (ad (18, 0, 0))] : List Value).toArray below meth c D vwCl idsX ad (ceX tc ad) A (MQ below (va_Qi (fun (r : Int32) (u : Mem) => Qr r u) (WdO D vwCl idsX ad (ceX tc ad) A) A) ([.ref (ad (0, 0, 0)), .ref (ad (18, 0, 0))] : List Value).toArray s 0 0 A) 5 (0, 0) 276 [(0, .ref (ad (0, 0, 0))), (2, .long c2)] [.int t0] τ := by
    intro c2 t0 τ hJ
    unfold J_L_refuses_b276 at hJ
    refine V_istore (lv' := [(4, .int t0), (0, .ref (ad (0, 0, 0))), (2, .long c2)]) C dL_refuses_276 (by decide) rfl ?_
    refine V_iload C dL_refuses_278 0 rfl ?_
    obtain ⟨hJt, hJf⟩ := hJ
    refine V_if_eq C (tgt := 296) dL_refuses_280 rfl (fun hc6 => ?_) (fun hc6 => ?_)
    · have hJ := hJt hc6; clear hJt hJf
      refine V_iconst (v := 0) C dL_refuses_296 ci_0 ?_
      exact V_zret C hr hlocks (Or.inl rfl) dL_refuses_297 hJ
    · have hJ := hJf hc6; clear hJt hJf
      refine V_aload_n C dL_refuses_283 1 rfl ?_
      refine V_cVl (st := []) (ci := 5) C okX_0_0 ⟨Nat.zero_le _, Nat.zero_le _⟩ (M_X5_checksum l D tc ad A  hJ) (cwV 0 C.1.2.2.2.2 gL_refuses_X5_checksum rfl rfl rfl (by decide +kernel) ⟨Nat.le_of_ble_eq_true rfl, Nat.le_of_ble_eq_true rfl⟩) rfl rfl rfl rfl (Nat.le_of_ble_eq_true rfl) dL_refuses_284 (fun r7 τ7 hJ => ?_)
      refine V_lload_n C dL_refuses_287 2 rfl ?_
      refine V_lcmp C dL_refuses_288 ?_
      obtain ⟨hJt, hJf⟩ := hJ
      refine V_if_ne C (tgt := 296) dL_refuses_289 rfl (fun hc8 => ?_) (fun hc8 => ?_)
      · have hJ := hJt hc8; clear hJt hJf
        refine V_iconst (v := 0) C dL_refuses_296 ci_0 ?_
        exact V_zret C hr hlocks (Or.inl rfl) dL_refuses_297 hJ
      · have hJ := hJf hc8; clear hJt hJf
        refine V_iconst (v := 1) C dL_refuses_292 ci_1 ?_
        refine V_goto C (tgt := 297) dL_refuses_293 rfl ?_
        exact V_zret C hr hlocks (Or.inr rfl) dL_refuses_297 hJ
  have B187 : ∀ (c2 : Int64) (t0 : Int32) (τ : Mem), J_L_refuses_b187   c2 t0 τ Qr → VV p l e (headSpec wsL_refuses ({ frames := 7, cells := 0, slots := 0, locals := 162 })).room s m ([.ref (ad (0, 0, 0)), .ref (ad (18, 0, 0))] : List Value).toArray below meth c D vwCl idsX ad (ceX tc ad) A (MQ below (va_Qi (fun (r : Int32) (u : Mem) => Qr r u) (WdO D vwCl idsX ad (ceX tc ad) A) A) ([.ref (ad (0, 0, 0)), .ref (ad (18, 0, 0))] : List Value).toArray s 0 0 A) 5 (0, 0) 187 [(0, .ref (ad (0, 0, 0))), (1, .ref (ad (18, 0, 0))), (2, .long c2)] [.int t0] τ := by
    intro c2 t0 τ hJ
    unfold J_L_refuses_b187 at hJ
    refine V_istore (lv' := [(4, .int t0), (0, .ref (ad (0, 0, 0))), (1, .ref (ad (18, 0, 0))), (2, .long c2)]) C dL_refuses_187 (by decide) rfl ?_
    refine V_iload C dL_refuses_189 0 rfl ?_
    obtain ⟨hJt, hJf⟩ := hJ
    refine V_if_eq C (tgt := 275) dL_refuses_191 rfl (fun hc5 => ?_) (fun hc5 => ?_)
    · have hJ := hJt hc5; clear hJt hJf
      refine V_iconst (v := 0) C dL_refuses_275 ci_0 ?_
      refine V_sub (lv' := [(0, .ref (ad (0, 0, 0))), (2, .long c2)]) [1, 3] rfl ?_
      exact B276 c2 0 τ hJ
    · have hJ := hJf hc5; clear hJt hJf
      refine V_aload_n C dL_refuses_194 1 rfl ?_
      refine V_iconst (v := 0) C dL_refuses_195 ci_0 ?_
      refine V_aload_n C dL_refuses_196 2 rfl ?_
      refine V_iconst (v := 1) C dL_refuses_197 ci_1 ?_
      refine V_iald C okX_18_0 0 rfl rfl ix_1 vpc_1_4 dL_refuses_198 ?_
      refine V_cVi (st := []) (ci := 5) C okX_0_0 ⟨Nat.zero_le _, Nat.zero_le _⟩ (M_X5_gain l D tc ad A 0 (τ (18, 0, 0) 1) hJ) (cwV 2 C.1.2.2.2.2 gL_refuses_X5_gain rfl rfl rfl (by decide +kernel) ⟨Nat.le_of_ble_eq_true rfl, Nat.le_of_ble_eq_true rfl⟩) rfl rfl rfl rfl (Nat.le_of_ble_eq_true rfl) dL_refuses_199 (fun r9 τ9 hJ => ?_)
      refine V_bipush (v := (-101)) C dL_refuses_202 cb_m101 ?_
      obtain ⟨hJt, hJf⟩ := hJ
      refine V_icmp_ne C (tgt := 275) dL_refuses_204 rfl (fun hc10 => ?_) (fun hc10 => ?_)
      · have hJ := hJt hc10; clear hJt hJf
        refine V_iconst (v := 0) C dL_refuses_275 ci_0 ?_
        refine V_sub (lv' := [(0, .ref (ad (0, 0, 0))), (2, .long c2)]) [1, 3] rfl ?_
        exact B276 c2 0 τ9 hJ
      · have hJ := hJf hc10; clear hJt hJf
        refine V_aload_n C dL_refuses_207 1 rfl ?_
        refine V_iconst (v := 0) C dL_refuses_208 ci_0 ?_
        refine V_iconst (v := 0) C dL_refuses_209 ci_0 ?_
        refine V_cVi (st := []) (ci := 5) C okX_0_0 ⟨Nat.zero_le _, Nat.zero_le _⟩ (M_X5_complaint l D tc ad A 0 0 hJ) (cwV 2 C.1.2.2.2.2 gL_refuses_X5_complaint rfl rfl rfl (by decide +kernel) ⟨Nat.le_of_ble_eq_true rfl, Nat.le_of_ble_eq_true rfl⟩) rfl rfl rfl rfl (Nat.le_of_ble_eq_true rfl) dL_refuses_210 (fun r11 τ11 hJ => ?_)
        refine V_bipush (v := (-103)) C dL_refuses_213 cb_m103 ?_
        obtain ⟨hJt, hJf⟩ := hJ
        refine V_icmp_ne C (tgt := 275) dL_refuses_215 rfl (fun hc12 => ?_) (fun hc12 => ?_)
        · have hJ := hJt hc12; clear hJt hJf
          refine V_iconst (v := 0) C dL_refuses_275 ci_0 ?_
          refine V_sub (lv' := [(0, .ref (ad (0, 0, 0))), (2, .long c2)]) [1, 3] rfl ?_
          exact B276 c2 0 τ11 hJ
        · have hJ := hJf hc12; clear hJt hJf
          refine V_aload_n C dL_refuses_218 1 rfl ?_
          refine V_iconst (v := 0) C dL_refuses_219 ci_0 ?_
          refine V_iconst (v := 0) C dL_refuses_220 ci_0 ?_
          refine V_cVi (st := []) (ci := 5) C okX_0_0 ⟨Nat.zero_le _, Nat.zero_le _⟩ (M_X5_willMiss l D tc ad A 0 0 hJ) (cwV 2 C.1.2.2.2.2 gL_refuses_X5_willMiss rfl rfl rfl (by decide +kernel) ⟨Nat.le_of_ble_eq_true rfl, Nat.le_of_ble_eq_true rfl⟩) rfl rfl rfl rfl (Nat.le_of_ble_eq_true rfl) dL_refuses_221 (fun r13 τ13 hJ => ?_)
          refine V_bipush (v := (-102)) C dL_refuses_224 cb_m102 ?_
          obtain ⟨hJt, hJf⟩ := hJ
          refine V_icmp_ne C (tgt := 275) dL_refuses_226 rfl (fun hc14 => ?_) (fun hc14 => ?_)
          · have hJ := hJt hc14; clear hJt hJf
            refine V_iconst (v := 0) C dL_refuses_275 ci_0 ?_
            refine V_sub (lv' := [(0, .ref (ad (0, 0, 0))), (2, .long c2)]) [1, 3] rfl ?_
            exact B276 c2 0 τ13 hJ
          · have hJ := hJf hc14; clear hJt hJf
            refine V_aload_n C dL_refuses_229 1 rfl ?_
            refine V_sipush (v := 128) C dL_refuses_230 cs_128 ?_
            refine V_cVi (st := []) (ci := 5) C okX_0_0 ⟨Nat.zero_le _, Nat.zero_le _⟩ (M_X5_append l D tc ad A 128 hJ) (cwV 1 C.1.2.2.2.2 gL_refuses_X5_append rfl rfl rfl (by decide +kernel) ⟨Nat.le_of_ble_eq_true rfl, Nat.le_of_ble_eq_true rfl⟩) rfl rfl rfl rfl (Nat.le_of_ble_eq_true rfl) dL_refuses_233 (fun r15 τ15 hJ => ?_)
            refine V_bipush (v := (-102)) C dL_refuses_236 cb_m102 ?_
            obtain ⟨hJt, hJf⟩ := hJ
            refine V_icmp_ne C (tgt := 275) dL_refuses_238 rfl (fun hc16 => ?_) (fun hc16 => ?_)
            · have hJ := hJt hc16; clear hJt hJf
              refine V_iconst (v := 0) C dL_refuses_275 ci_0 ?_
              refine V_sub (lv' := [(0, .ref (ad (0, 0, 0))), (2, .long c2)]) [1, 3] rfl ?_
              exact B276 c2 0 τ15 hJ
            · have hJ := hJf hc16; clear hJt hJf
              refine V_aload_n C dL_refuses_241 1 rfl ?_
              refine V_iconst (v := 2) C dL_refuses_242 ci_2 ?_
              refine V_cVi (st := []) (ci := 5) C okX_0_0 ⟨Nat.zero_le _, Nat.zero_le _⟩ (M_X5_save l D tc ad A 2 hJ) (cwV 1 C.1.2.2.2.2 gL_refuses_X5_save rfl rfl rfl (by decide +kernel) ⟨Nat.le_of_ble_eq_true rfl, Nat.le_of_ble_eq_true rfl⟩) rfl rfl rfl rfl (Nat.le_of_ble_eq_true rfl) dL_refuses_243 (fun r17 τ17 hJ => ?_)
              refine V_bipush (v := (-101)) C dL_refuses_246 cb_m101 ?_
              obtain ⟨hJt, hJf⟩ := hJ
              refine V_icmp_ne C (tgt := 275) dL_refuses_248 rfl (fun hc18 => ?_) (fun hc18 => ?_)
              · have hJ := hJt hc18; clear hJt hJf
                refine V_iconst (v := 0) C dL_refuses_275 ci_0 ?_
                refine V_sub (lv' := [(0, .ref (ad (0, 0, 0))), (2, .long c2)]) [1, 3] rfl ?_
                exact B276 c2 0 τ17 hJ
              · have hJ := hJf hc18; clear hJt hJf
                refine V_aload_n C dL_refuses_251 1 rfl ?_
                refine V_iconst (v := 2) C dL_refuses_252 ci_2 ?_
                refine V_cVi (st := []) (ci := 5) C okX_0_0 ⟨Nat.zero_le _, Nat.zero_le _⟩ (M_X5_restore l D tc ad A 2 hJ) (cwV 1 C.1.2.2.2.2 gL_refuses_X5_restore rfl rfl rfl (by decide +kernel) ⟨Nat.le_of_ble_eq_true rfl, Nat.le_of_ble_eq_true rfl⟩) rfl rfl rfl rfl (Nat.le_of_ble_eq_true rfl) dL_refuses_253 (fun r19 τ19 hJ => ?_)
                refine V_bipush (v := (-101)) C dL_refuses_256 cb_m101 ?_
                obtain ⟨hJt, hJf⟩ := hJ
                refine V_icmp_ne C (tgt := 275) dL_refuses_258 rfl (fun hc20 => ?_) (fun hc20 => ?_)
                · have hJ := hJt hc20; clear hJt hJf
                  refine V_iconst (v := 0) C dL_refuses_275 ci_0 ?_
                  refine V_sub (lv' := [(0, .ref (ad (0, 0, 0))), (2, .long c2)]) [1, 3] rfl ?_
                  exact B276 c2 0 τ19 hJ
                · have hJ := hJf hc20; clear hJt hJf
                  refine V_aload_n C dL_refuses_261 1 rfl ?_
                  refine V_iconst (v := (-1)) C dL_refuses_262 ci_m1 ?_
                  refine V_cVi (st := []) (ci := 5) C okX_0_0 ⟨Nat.zero_le _, Nat.zero_le _⟩ (M_X5_isShut l D tc ad A (-1) hJ) (cwV 1 C.1.2.2.2.2 gL_refuses_X5_isShut rfl rfl rfl (by decide +kernel) ⟨Nat.le_of_ble_eq_true rfl, Nat.le_of_ble_eq_true rfl⟩) rfl rfl rfl rfl (Nat.le_of_ble_eq_true rfl) dL_refuses_263 (fun r21 τ21 hJ => ?_)
                  refine V_bipush (v := (-101)) C dL_refuses_266 cb_m101 ?_
                  obtain ⟨hJt, hJf⟩ := hJ
                  refine V_icmp_ne C (tgt := 275) dL_refuses_268 rfl (fun hc22 => ?_) (fun hc22 => ?_)
                  · have hJ := hJt hc22; clear hJt hJf
                    refine V_iconst (v := 0) C dL_refuses_275 ci_0 ?_
                    refine V_sub (lv' := [(0, .ref (ad (0, 0, 0))), (2, .long c2)]) [1, 3] rfl ?_
                    exact B276 c2 0 τ21 hJ
                  · have hJ := hJf hc22; clear hJt hJf
                    refine V_iconst (v := 1) C dL_refuses_271 ci_1 ?_
                    refine V_goto C (tgt := 276) dL_refuses_272 rfl ?_
                    refine V_sub (lv' := [(0, .ref (ad (0, 0, 0))), (2, .long c2)]) [1, 3] rfl ?_
                    exact B276 c2 1 τ21 hJ
  have B93 : ∀ (c2 : Int64) (t0 : Int32) (τ : Mem), J_L_refuses_b93   c2 t0 τ Qr → VV p l e (headSpec wsL_refuses ({ frames := 7, cells := 0, slots := 0, locals := 162 })).room s m ([.ref (ad (0, 0, 0)), .ref (ad (18, 0, 0))] : List Value).toArray below meth c D vwCl idsX ad (ceX tc ad) A (MQ below (va_Qi (fun (r : Int32) (u : Mem) => Qr r u) (WdO D vwCl idsX ad (ceX tc ad) A) A) ([.ref (ad (0, 0, 0)), .ref (ad (18, 0, 0))] : List Value).toArray s 0 0 A) 5 (0, 0) 93 [(0, .ref (ad (0, 0, 0))), (1, .ref (ad (18, 0, 0))), (2, .long c2)] [.int t0] τ := by
    intro c2 t0 τ hJ
    unfold J_L_refuses_b93 at hJ
    refine V_istore (lv' := [(4, .int t0), (0, .ref (ad (0, 0, 0))), (1, .ref (ad (18, 0, 0))), (2, .long c2)]) C dL_refuses_93 (by decide) rfl ?_
    refine V_iload C dL_refuses_95 0 rfl ?_
    obtain ⟨hJt, hJf⟩ := hJ
    refine V_if_eq C (tgt := 186) dL_refuses_97 rfl (fun hc4 => ?_) (fun hc4 => ?_)
    · have hJ := hJt hc4; clear hJt hJf
      refine V_iconst (v := 0) C dL_refuses_186 ci_0 ?_
      refine V_sub (lv' := [(0, .ref (ad (0, 0, 0))), (1, .ref (ad (18, 0, 0))), (2, .long c2)]) [1, 2, 3] rfl ?_
      exact B187 c2 0 τ hJ
    · have hJ := hJf hc4; clear hJt hJf
      refine V_aload_n C dL_refuses_100 1 rfl ?_
      refine V_iconst (v := 0) C dL_refuses_101 ci_0 ?_
      refine V_iconst (v := 1) C dL_refuses_102 ci_1 ?_
      refine V_iconst (v := 5) C dL_refuses_103 ci_5 ?_
      refine V_iconst (v := 5) C dL_refuses_104 ci_5 ?_
      refine V_cVi (st := []) (ci := 5) C okX_0_0 ⟨Nat.zero_le _, Nat.zero_le _⟩ (M_X5_setField l D tc ad A 0 1 5 5 hJ) (cwV 4 C.1.2.2.2.2 gL_refuses_X5_setField rfl rfl rfl (by decide +kernel) ⟨Nat.le_of_ble_eq_true rfl, Nat.le_of_ble_eq_true rfl⟩) rfl rfl rfl rfl (Nat.le_of_ble_eq_true rfl) dL_refuses_105 (fun r23 τ23 hJ => ?_)
      refine V_bipush (v := (-102)) C dL_refuses_108 cb_m102 ?_
      obtain ⟨hJt, hJf⟩ := hJ
      refine V_icmp_ne C (tgt := 186) dL_refuses_110 rfl (fun hc24 => ?_) (fun hc24 => ?_)
      · have hJ := hJt hc24; clear hJt hJf
        refine V_iconst (v := 0) C dL_refuses_186 ci_0 ?_
        refine V_sub (lv' := [(0, .ref (ad (0, 0, 0))), (1, .ref (ad (18, 0, 0))), (2, .long c2)]) [1, 2, 3] rfl ?_
        exact B187 c2 0 τ23 hJ
      · have hJ := hJf hc24; clear hJt hJf
        refine V_aload_n C dL_refuses_113 1 rfl ?_
        refine V_iconst (v := 0) C dL_refuses_114 ci_0 ?_
        refine V_sipush (v := 501) C dL_refuses_115 cs_501 ?_
        refine V_iconst (v := 0) C dL_refuses_118 ci_0 ?_
        refine V_cVi (st := []) (ci := 5) C okX_0_0 ⟨Nat.zero_le _, Nat.zero_le _⟩ (M_X5_setPond l D tc ad A 0 501 0 hJ) (cwV 3 C.1.2.2.2.2 gL_refuses_X5_setPond rfl rfl rfl (by decide +kernel) ⟨Nat.le_of_ble_eq_true rfl, Nat.le_of_ble_eq_true rfl⟩) rfl rfl rfl rfl (Nat.le_of_ble_eq_true rfl) dL_refuses_119 (fun r25 τ25 hJ => ?_)
        refine V_bipush (v := (-102)) C dL_refuses_122 cb_m102 ?_
        obtain ⟨hJt, hJf⟩ := hJ
        refine V_icmp_ne C (tgt := 186) dL_refuses_124 rfl (fun hc26 => ?_) (fun hc26 => ?_)
        · have hJ := hJt hc26; clear hJt hJf
          refine V_iconst (v := 0) C dL_refuses_186 ci_0 ?_
          refine V_sub (lv' := [(0, .ref (ad (0, 0, 0))), (1, .ref (ad (18, 0, 0))), (2, .long c2)]) [1, 2, 3] rfl ?_
          exact B187 c2 0 τ25 hJ
        · have hJ := hJf hc26; clear hJt hJf
          refine V_aload_n C dL_refuses_127 1 rfl ?_
          refine V_iconst (v := 0) C dL_refuses_128 ci_0 ?_
          refine V_bipush (v := 25) C dL_refuses_129 cb_25 ?_
          refine V_cVi (st := []) (ci := 5) C okX_0_0 ⟨Nat.zero_le _, Nat.zero_le _⟩ (M_X5_setTurn l D tc ad A 0 25 hJ) (cwV 2 C.1.2.2.2.2 gL_refuses_X5_setTurn rfl rfl rfl (by decide +kernel) ⟨Nat.le_of_ble_eq_true rfl, Nat.le_of_ble_eq_true rfl⟩) rfl rfl rfl rfl (Nat.le_of_ble_eq_true rfl) dL_refuses_131 (fun r27 τ27 hJ => ?_)
          refine V_bipush (v := (-102)) C dL_refuses_134 cb_m102 ?_
          obtain ⟨hJt, hJf⟩ := hJ
          refine V_icmp_ne C (tgt := 186) dL_refuses_136 rfl (fun hc28 => ?_) (fun hc28 => ?_)
          · have hJ := hJt hc28; clear hJt hJf
            refine V_iconst (v := 0) C dL_refuses_186 ci_0 ?_
            refine V_sub (lv' := [(0, .ref (ad (0, 0, 0))), (1, .ref (ad (18, 0, 0))), (2, .long c2)]) [1, 2, 3] rfl ?_
            exact B187 c2 0 τ27 hJ
          · have hJ := hJf hc28; clear hJt hJf
            refine V_aload_n C dL_refuses_139 1 rfl ?_
            refine V_iconst (v := 3) C dL_refuses_140 ci_3 ?_
            refine V_iconst (v := 3) C dL_refuses_141 ci_3 ?_
            refine V_iconst (v := 1) C dL_refuses_142 ci_1 ?_
            refine V_cVi (st := []) (ci := 5) C okX_0_0 ⟨Nat.zero_le _, Nat.zero_le _⟩ (M_X5_setSupply l D tc ad A 3 3 1 hJ) (cwV 3 C.1.2.2.2.2 gL_refuses_X5_setSupply rfl rfl rfl (by decide +kernel) ⟨Nat.le_of_ble_eq_true rfl, Nat.le_of_ble_eq_true rfl⟩) rfl rfl rfl rfl (Nat.le_of_ble_eq_true rfl) dL_refuses_143 (fun r29 τ29 hJ => ?_)
            refine V_bipush (v := (-102)) C dL_refuses_146 cb_m102 ?_
            obtain ⟨hJt, hJf⟩ := hJ
            refine V_icmp_ne C (tgt := 186) dL_refuses_148 rfl (fun hc30 => ?_) (fun hc30 => ?_)
            · have hJ := hJt hc30; clear hJt hJf
              refine V_iconst (v := 0) C dL_refuses_186 ci_0 ?_
              refine V_sub (lv' := [(0, .ref (ad (0, 0, 0))), (1, .ref (ad (18, 0, 0))), (2, .long c2)]) [1, 2, 3] rfl ?_
              exact B187 c2 0 τ29 hJ
            · have hJ := hJf hc30; clear hJt hJf
              refine V_aload_n C dL_refuses_151 1 rfl ?_
              refine V_iconst (v := 3) C dL_refuses_152 ci_3 ?_
              refine V_cVi (st := []) (ci := 5) C okX_0_0 ⟨Nat.zero_le _, Nat.zero_le _⟩ (M_X5_setRule l D tc ad A 3 hJ) (cwV 1 C.1.2.2.2.2 gL_refuses_X5_setRule rfl rfl rfl (by decide +kernel) ⟨Nat.le_of_ble_eq_true rfl, Nat.le_of_ble_eq_true rfl⟩) rfl rfl rfl rfl (Nat.le_of_ble_eq_true rfl) dL_refuses_153 (fun r31 τ31 hJ => ?_)
              refine V_bipush (v := (-102)) C dL_refuses_156 cb_m102 ?_
              obtain ⟨hJt, hJf⟩ := hJ
              refine V_icmp_ne C (tgt := 186) dL_refuses_158 rfl (fun hc32 => ?_) (fun hc32 => ?_)
              · have hJ := hJt hc32; clear hJt hJf
                refine V_iconst (v := 0) C dL_refuses_186 ci_0 ?_
                refine V_sub (lv' := [(0, .ref (ad (0, 0, 0))), (1, .ref (ad (18, 0, 0))), (2, .long c2)]) [1, 2, 3] rfl ?_
                exact B187 c2 0 τ31 hJ
              · have hJ := hJf hc32; clear hJt hJf
                refine V_aload_n C dL_refuses_161 1 rfl ?_
                refine V_bipush (v := 101) C dL_refuses_162 cb_101 ?_
                refine V_cVi (st := []) (ci := 5) C okX_0_0 ⟨Nat.zero_le _, Nat.zero_le _⟩ (M_X5_setFutile l D tc ad A 101 hJ) (cwV 1 C.1.2.2.2.2 gL_refuses_X5_setFutile rfl rfl rfl (by decide +kernel) ⟨Nat.le_of_ble_eq_true rfl, Nat.le_of_ble_eq_true rfl⟩) rfl rfl rfl rfl (Nat.le_of_ble_eq_true rfl) dL_refuses_164 (fun r33 τ33 hJ => ?_)
                refine V_bipush (v := (-102)) C dL_refuses_167 cb_m102 ?_
                obtain ⟨hJt, hJf⟩ := hJ
                refine V_icmp_ne C (tgt := 186) dL_refuses_169 rfl (fun hc34 => ?_) (fun hc34 => ?_)
                · have hJ := hJt hc34; clear hJt hJf
                  refine V_iconst (v := 0) C dL_refuses_186 ci_0 ?_
                  refine V_sub (lv' := [(0, .ref (ad (0, 0, 0))), (1, .ref (ad (18, 0, 0))), (2, .long c2)]) [1, 2, 3] rfl ?_
                  exact B187 c2 0 τ33 hJ
                · have hJ := hJf hc34; clear hJt hJf
                  refine V_aload_n C dL_refuses_172 1 rfl ?_
                  refine V_iconst (v := 0) C dL_refuses_173 ci_0 ?_
                  refine V_cVi (st := []) (ci := 5) C okX_0_0 ⟨Nat.zero_le _, Nat.zero_le _⟩ (M_X5_advance l D tc ad A 0 hJ) (cwV 1 C.1.2.2.2.2 gL_refuses_X5_advance rfl rfl rfl (by decide +kernel) ⟨Nat.le_of_ble_eq_true rfl, Nat.le_of_ble_eq_true rfl⟩) rfl rfl rfl rfl (Nat.le_of_ble_eq_true rfl) dL_refuses_174 (fun r35 τ35 hJ => ?_)
                  refine V_bipush (v := (-102)) C dL_refuses_177 cb_m102 ?_
                  obtain ⟨hJt, hJf⟩ := hJ
                  refine V_icmp_ne C (tgt := 186) dL_refuses_179 rfl (fun hc36 => ?_) (fun hc36 => ?_)
                  · have hJ := hJt hc36; clear hJt hJf
                    refine V_iconst (v := 0) C dL_refuses_186 ci_0 ?_
                    refine V_sub (lv' := [(0, .ref (ad (0, 0, 0))), (1, .ref (ad (18, 0, 0))), (2, .long c2)]) [1, 2, 3] rfl ?_
                    exact B187 c2 0 τ35 hJ
                  · have hJ := hJf hc36; clear hJt hJf
                    refine V_iconst (v := 1) C dL_refuses_182 ci_1 ?_
                    refine V_goto C (tgt := 187) dL_refuses_183 rfl ?_
                    refine V_sub (lv' := [(0, .ref (ad (0, 0, 0))), (1, .ref (ad (18, 0, 0))), (2, .long c2)]) [1, 2, 3] rfl ?_
                    exact B187 c2 1 τ35 hJ
  unfold J_L_refuses at hJ
  refine V_aload_n C dL_refuses_0 0 rfl ?_
  refine V_cVl (st := []) (ci := 5) C okX_0_0 ⟨Nat.zero_le _, Nat.zero_le _⟩ (M_X5_checksum l D tc ad A  hJ) (cwV 0 C.1.2.2.2.2 gL_refuses_X5_checksum rfl rfl rfl (by decide +kernel) ⟨Nat.le_of_ble_eq_true rfl, Nat.le_of_ble_eq_true rfl⟩) rfl rfl rfl rfl (Nat.le_of_ble_eq_true rfl) dL_refuses_1 (fun r1 τ1 hJ => ?_)
  refine V_lstore_n (lv' := [(2, .long r1), (0, .ref (ad (0, 0, 0))), (1, .ref (ad (18, 0, 0)))]) C dL_refuses_4 (by decide) rfl ?_
  refine V_aload_n C dL_refuses_5 1 rfl ?_
  refine V_aload_n C dL_refuses_6 2 rfl ?_
  refine V_iconst (v := 0) C dL_refuses_7 ci_0 ?_
  refine V_iald C okX_18_0 0 rfl rfl ix_0 vpc_0_4 dL_refuses_8 ?_
  refine V_iconst (v := 1) C dL_refuses_9 ci_1 ?_
  refine V_iconst (v := 0) C dL_refuses_10 ci_0 ?_
  refine V_cVi (st := []) (ci := 5) C okX_0_0 ⟨Nat.zero_le _, Nat.zero_le _⟩ (M_X5_addDitch l D tc ad A (τ1 (18, 0, 0) 0) 1 0 hJ) (cwV 3 C.1.2.2.2.2 gL_refuses_X5_addDitch rfl rfl rfl (by decide +kernel) ⟨Nat.le_of_ble_eq_true rfl, Nat.le_of_ble_eq_true rfl⟩) rfl rfl rfl rfl (Nat.le_of_ble_eq_true rfl) dL_refuses_11 (fun r2 τ2 hJ => ?_)
  refine V_bipush (v := (-101)) C dL_refuses_14 cb_m101 ?_
  obtain ⟨hJt, hJf⟩ := hJ
  refine V_icmp_ne C (tgt := 92) dL_refuses_16 rfl (fun hc3 => ?_) (fun hc3 => ?_)
  · have hJ := hJt hc3; clear hJt hJf
    refine V_iconst (v := 0) C dL_refuses_92 ci_0 ?_
    refine V_sub (lv' := [(0, .ref (ad (0, 0, 0))), (1, .ref (ad (18, 0, 0))), (2, .long r1)]) [1, 2, 0] rfl ?_
    exact B93 r1 0 τ2 hJ
  · have hJ := hJf hc3; clear hJt hJf
    refine V_aload_n C dL_refuses_19 1 rfl ?_
    refine V_iconst (v := 0) C dL_refuses_20 ci_0 ?_
    refine V_sipush (v := 201) C dL_refuses_21 cs_201 ?_
    refine V_iconst (v := 0) C dL_refuses_24 ci_0 ?_
    refine V_cVi (st := []) (ci := 5) C okX_0_0 ⟨Nat.zero_le _, Nat.zero_le _⟩ (M_X5_addDitch l D tc ad A 0 201 0 hJ) (cwV 3 C.1.2.2.2.2 gL_refuses_X5_addDitch rfl rfl rfl (by decide +kernel) ⟨Nat.le_of_ble_eq_true rfl, Nat.le_of_ble_eq_true rfl⟩) rfl rfl rfl rfl (Nat.le_of_ble_eq_true rfl) dL_refuses_25 (fun r37 τ37 hJ => ?_)
    refine V_bipush (v := (-102)) C dL_refuses_28 cb_m102 ?_
    obtain ⟨hJt, hJf⟩ := hJ
    refine V_icmp_ne C (tgt := 92) dL_refuses_30 rfl (fun hc38 => ?_) (fun hc38 => ?_)
    · have hJ := hJt hc38; clear hJt hJf
      refine V_iconst (v := 0) C dL_refuses_92 ci_0 ?_
      refine V_sub (lv' := [(0, .ref (ad (0, 0, 0))), (1, .ref (ad (18, 0, 0))), (2, .long r1)]) [1, 2, 0] rfl ?_
      exact B93 r1 0 τ37 hJ
    · have hJ := hJf hc38; clear hJt hJf
      refine V_aload_n C dL_refuses_33 1 rfl ?_
      refine V_iconst (v := 0) C dL_refuses_34 ci_0 ?_
      refine V_iconst (v := 1) C dL_refuses_35 ci_1 ?_
      refine V_bipush (v := 51) C dL_refuses_36 cb_51 ?_
      refine V_cVi (st := []) (ci := 5) C okX_0_0 ⟨Nat.zero_le _, Nat.zero_le _⟩ (M_X5_setDitch l D tc ad A 0 1 51 hJ) (cwV 3 C.1.2.2.2.2 gL_refuses_X5_setDitch rfl rfl rfl (by decide +kernel) ⟨Nat.le_of_ble_eq_true rfl, Nat.le_of_ble_eq_true rfl⟩) rfl rfl rfl rfl (Nat.le_of_ble_eq_true rfl) dL_refuses_38 (fun r39 τ39 hJ => ?_)
      refine V_bipush (v := (-102)) C dL_refuses_41 cb_m102 ?_
      obtain ⟨hJt, hJf⟩ := hJ
      refine V_icmp_ne C (tgt := 92) dL_refuses_43 rfl (fun hc40 => ?_) (fun hc40 => ?_)
      · have hJ := hJt hc40; clear hJt hJf
        refine V_iconst (v := 0) C dL_refuses_92 ci_0 ?_
        refine V_sub (lv' := [(0, .ref (ad (0, 0, 0))), (1, .ref (ad (18, 0, 0))), (2, .long r1)]) [1, 2, 0] rfl ?_
        exact B93 r1 0 τ39 hJ
      · have hJ := hJf hc40; clear hJt hJf
        refine V_aload_n C dL_refuses_46 1 rfl ?_
        refine V_iconst (v := (-1)) C dL_refuses_47 ci_m1 ?_
        refine V_sipush (v := 1900) C dL_refuses_48 cs_1900 ?_
        refine V_iconst (v := 1) C dL_refuses_51 ci_1 ?_
        refine V_cVi (st := []) (ci := 5) C okX_0_0 ⟨Nat.zero_le _, Nat.zero_le _⟩ (M_X5_addUser l D tc ad A (-1) 1900 1 hJ) (cwV 3 C.1.2.2.2.2 gL_refuses_X5_addUser rfl rfl rfl (by decide +kernel) ⟨Nat.le_of_ble_eq_true rfl, Nat.le_of_ble_eq_true rfl⟩) rfl rfl rfl rfl (Nat.le_of_ble_eq_true rfl) dL_refuses_52 (fun r41 τ41 hJ => ?_)
        refine V_bipush (v := (-101)) C dL_refuses_55 cb_m101 ?_
        obtain ⟨hJt, hJf⟩ := hJ
        refine V_icmp_ne C (tgt := 92) dL_refuses_57 rfl (fun hc42 => ?_) (fun hc42 => ?_)
        · have hJ := hJt hc42; clear hJt hJf
          refine V_iconst (v := 0) C dL_refuses_92 ci_0 ?_
          refine V_sub (lv' := [(0, .ref (ad (0, 0, 0))), (1, .ref (ad (18, 0, 0))), (2, .long r1)]) [1, 2, 0] rfl ?_
          exact B93 r1 0 τ41 hJ
        · have hJ := hJf hc42; clear hJt hJf
          refine V_aload_n C dL_refuses_60 1 rfl ?_
          refine V_iconst (v := 0) C dL_refuses_61 ci_0 ?_
          refine V_sipush (v := 1799) C dL_refuses_62 cs_1799 ?_
          refine V_iconst (v := 1) C dL_refuses_65 ci_1 ?_
          refine V_cVi (st := []) (ci := 5) C okX_0_0 ⟨Nat.zero_le _, Nat.zero_le _⟩ (M_X5_addUser l D tc ad A 0 1799 1 hJ) (cwV 3 C.1.2.2.2.2 gL_refuses_X5_addUser rfl rfl rfl (by decide +kernel) ⟨Nat.le_of_ble_eq_true rfl, Nat.le_of_ble_eq_true rfl⟩) rfl rfl rfl rfl (Nat.le_of_ble_eq_true rfl) dL_refuses_66 (fun r43 τ43 hJ => ?_)
          refine V_bipush (v := (-102)) C dL_refuses_69 cb_m102 ?_
          obtain ⟨hJt, hJf⟩ := hJ
          refine V_icmp_ne C (tgt := 92) dL_refuses_71 rfl (fun hc44 => ?_) (fun hc44 => ?_)
          · have hJ := hJt hc44; clear hJt hJf
            refine V_iconst (v := 0) C dL_refuses_92 ci_0 ?_
            refine V_sub (lv' := [(0, .ref (ad (0, 0, 0))), (1, .ref (ad (18, 0, 0))), (2, .long r1)]) [1, 2, 0] rfl ?_
            exact B93 r1 0 τ43 hJ
          · have hJ := hJf hc44; clear hJt hJf
            refine V_aload_n C dL_refuses_74 1 rfl ?_
            refine V_iconst (v := 0) C dL_refuses_75 ci_0 ?_
            refine V_bipush (v := 61) C dL_refuses_76 cb_61 ?_
            refine V_iconst (v := 0) C dL_refuses_78 ci_0 ?_
            refine V_iconst (v := 1) C dL_refuses_79 ci_1 ?_
            refine V_cVi (st := []) (ci := 5) C okX_0_0 ⟨Nat.zero_le _, Nat.zero_le _⟩ (M_X5_setField l D tc ad A 0 61 0 1 hJ) (cwV 4 C.1.2.2.2.2 gL_refuses_X5_setField rfl rfl rfl (by decide +kernel) ⟨Nat.le_of_ble_eq_true rfl, Nat.le_of_ble_eq_true rfl⟩) rfl rfl rfl rfl (Nat.le_of_ble_eq_true rfl) dL_refuses_80 (fun r45 τ45 hJ => ?_)
            refine V_bipush (v := (-102)) C dL_refuses_83 cb_m102 ?_
            obtain ⟨hJt, hJf⟩ := hJ
            refine V_icmp_ne C (tgt := 92) dL_refuses_85 rfl (fun hc46 => ?_) (fun hc46 => ?_)
            · have hJ := hJt hc46; clear hJt hJf
              refine V_iconst (v := 0) C dL_refuses_92 ci_0 ?_
              refine V_sub (lv' := [(0, .ref (ad (0, 0, 0))), (1, .ref (ad (18, 0, 0))), (2, .long r1)]) [1, 2, 0] rfl ?_
              exact B93 r1 0 τ45 hJ
            · have hJ := hJf hc46; clear hJt hJf
              refine V_iconst (v := 1) C dL_refuses_88 ci_1 ?_
              refine V_goto C (tgt := 93) dL_refuses_89 rfl ?_
              refine V_sub (lv' := [(0, .ref (ad (0, 0, 0))), (1, .ref (ad (18, 0, 0))), (2, .long r1)]) [1, 2, 0] rfl ?_
              exact B93 r1 1 τ45 hJ
