/-! PART 27: calls: hours that pass, the letters, the slots -/
section C4
variable {T : Nat} {σ ρ : Mem} {d : Dst} {b : Nat → Nat} {ds : Nat → Dst} {n : Nat} {t : Nat → Nat}
theorem P_advance (hS : IS T d b ds n t) (hT : T + 48 ≤ 30000) (hX : WX σ d b ds n t) (hM : WM ρ d b ds n t) (x : Int32) : Agr (T + 48) (J_X5_advance x σ) (J_X6_advance x ρ) := by
  by_cases h : Rng 1 49 x
  · obtain ⟨v, hv1, hv, rfl⟩ := id h
    refine Agr.to hS (psn d v) ((psn_inv hS.1 (k := v) (by omega)).up (by omega) hT) (nI (psn d v 11) - nI (d 11)) ?_ ?_
    · unfold J_X5_advance
      refine C_in_t (lo := 1) (hi := 48) (by decide) h (y1 ?_)
      refine lpAM v (by omega) (fun k y τ' => FrJ 0 σ τ' ∧ RepX τ' 0 (psn d k) ∧ y = nI (psn d k 11) - nI (d 11)) ⟨FrJ.rf, hX.1, (Int32.sub_self _).symm⟩ (fun k y τ3 I μ hk hP next => ?_)
      obtain ⟨hf, hr, rfl⟩ := hP
      refine br_le (by omega) (by omega) (fun hle => ?_) (fun hlt => ?_)
      · have : k = v := by omega
        subst this
        exact ⟨rfl, hX.fr0 hf hr⟩
      · refine C_passHour (psn_inv hS.1 (k := k) (by omega)) (by omega) hr (fun τ' hf' hr' => ?_)
        rw [i32_cyc]
        rintro _ rfl _ rfl
        rw [nI_1]
        exact next hlt _ _ ⟨hf.tr hf', hr', rfl⟩
    · unfold J_X6_advance
      refine R_in_t (lo := 1) (hi := 48) (by decide) h (y1 ?_)
      rw [hM.1 11 (by decide)]
      rintro _ rfl
      refine lpM v (by omega) (fun k τ' => FrM ρ τ' ∧ RepM τ' (psn d k)) ⟨FrM.rf, hM.1⟩ (fun k τ4 I μ hk hP next => ?_)
      obtain ⟨hf, hr⟩ := hP
      refine br_le (by omega) (by omega) (fun hle => ?_) (fun hlt => ?_)
      · have : k = v := by omega
        subst this
        rw [hr 11 (by decide)]
        exact ⟨rfl, hM.fr hf hr⟩
      · refine R_passes (psn_inv hS.1 (k := k) (by omega)) (by omega) hr (fun τ' hf' hr' => ?_)
        rintro _ rfl
        rw [nI_1]
        exact next hlt _ ⟨hf.tr (FrM.of (fun o q1 _ q3 q4 q5 q6 _ => hf' o q1 q3 q4 q5 q6)), hr'⟩
  · refine Agr.same hS hT (-102) ?_ ?_
    · unfold J_X5_advance
      exact C_in_f (lo := 1) (hi := 48) (by decide) (by decide) h (y0 ⟨rfl, hX⟩)
    · unfold J_X6_advance
      exact R_in_f (lo := 1) (hi := 48) (by decide) (by decide) h (y0 ⟨rfl, hM⟩)
theorem psn_2 (h2 : d 2 ≤ 12) : ∀ k, psn d k 2 = d 2
  | 0 => rfl
  | k + 1 => by
    have ih := psn_2 h2 k
    show pass (psn d k) 2 = _
    unfold pass
    rw [du_ne _ _ (by omega), psU_lo (by omega) (by omega)]
    exact ih
theorem psn_lo {k i : Nat} (h2 : d 2 ≤ 12) (hi : 0 < i ∧ i < 5 ∨ 11 < i ∧ i < 154 ∨ 166 ≤ i ∧ i < 190) : psn d k i = d i := by
  induction k with
  | zero => rfl
  | succ k ih =>
    have e2 := psn_2 h2 k
    show pass (psn d k) i = _
    unfold pass
    rw [du_ne _ _ (by omega), psU_lo (by omega) (by omega)]
    exact ih
theorem P_willMiss (hS : IS T d b ds n t) (hT : T + 48 ≤ 30000) (hX : WX σ d b ds n t) (hM : WM ρ d b ds n t) (x y : Int32) : Agr (T + 48) (J_X5_willMiss x y σ) (J_X6_willMiss x y ρ) := by
  have g := hS.geo
  have hn := g.nu
  have hp2 : ∀ k, psn d k 2 = d 2 := fun k => psn_lo hn (by omega)
  by_cases h : Rng 0 (d 2) x
  · by_cases h2 : Rng 1 49 y
    · obtain ⟨u, -, hu, rfl⟩ := id h
      obtain ⟨v, hv1, hv, rfl⟩ := id h2
      refine Agr.same hS hT (nI (psn d v (190 + u)) - nI (d (190 + u))) ?_ ?_
      · unfold J_X5_willMiss
        refine C_usr_t g hX.1 h (y1 (C_in_t (lo := 1) (hi := 48) (by decide) h2 (y1 ?_)))
        refine C_copyFrom g (by decide) hX.1 (fun τ5 hf5 hr5 => ?_)
        refine lpM v (by omega) (fun k τ' => FrJ 1 σ τ' ∧ RepX τ' 1 (psn d k)) ⟨hf5.fj, hr5⟩ (fun k τ6 I μ hk hP next => ?_)
        obtain ⟨hf, hr⟩ := hP
        refine br_le (by omega) (by omega) (fun hle => ?_) (fun hlt => ?_)
        · have : k = v := by omega
          subst this
          have hX6 := hX.fr1 hf
          rw [nI_clamp (by omega), hr.u10 (by rw [hp2]; exact hu), hX6.1.u10 hu]
          exact ⟨vp_in_nI (by omega) (by decide), vp_in_nI (by omega) (by decide), rfl, hX6⟩
        · refine C_passHour (psn_inv hS.1 (k := k) (by omega)) (by omega) hr (fun τ' hf' hr' => ?_)
          rintro _ rfl
          rw [nI_1]
          exact next hlt _ ⟨hf.tr hf', hr'⟩
      · unfold J_X6_willMiss
        refine R_usr_t g hM.1 h (y1 (R_in_t (lo := 1) (hi := 48) (by decide) h2 (y1 ?_)))
        refine R_keeps hM.1 (fun τ5 hf5 hk5 => ?_)
        refine lpM v (by omega) (fun k τ' => (∀ o : Oid, o.1 ≠ 1 → o.1 ≠ 2 → o.1 ≠ 6 → o.1 ≠ 7 → o.1 ≠ 8 → o.1 ≠ 9 → τ' o = ρ o) ∧ (∀ i, i < 214 → τ' (2, 0, 0) i = nI (d i)) ∧ RepM τ' (psn d k)) ⟨fun o _ q2 _ _ _ _ => hf5 o (oid_ne q2), hk5, hM.1.row (hf5 _ (by decide))⟩ (fun k τ6 I μ hk hP next => ?_)
        obtain ⟨hf, hkp, hr⟩ := hP
        refine br_le (by omega) (by omega) (fun hle => ?_) (fun hlt => ?_)
        · have : k = v := by omega
          subst this
          rw [fa_lit 190, nI_add, nI_clamp (by omega), hr (190 + u) (by omega), hkp (190 + u) (by omega)]
          refine ⟨vp_in_nI (by omega) (by decide), vp_in_nI (by omega) (by decide), ?_⟩
          rintro _ rfl
          refine R_brings hkp (fun τ' hf' hr' => ⟨rfl, hM.fr (FrM.of (fun o q1 q2 q3 q4 q5 q6 _ => ?_)) hr'⟩)
          rw [hf' o (oid_ne q1)]
          exact hf o q1 q2 q3 q4 q5 q6
        · refine R_passes (psn_inv hS.1 (k := k) (by omega)) (by omega) hr (fun τ' hf' hr' => ?_)
          rintro _ rfl
          rw [nI_1]
          refine next hlt _ ⟨fun o q1 q2 q3 q4 q5 q6 => (hf' o q1 q3 q4 q5 q6).trans (hf o q1 q2 q3 q4 q5 q6), fun i hi => ?_, hr'⟩
          rw [hf' _ (by decide) (by decide) (by decide) (by decide) (by decide)]
          exact hkp i hi
    · refine Agr.same hS hT (-102) ?_ ?_
      · unfold J_X5_willMiss
        exact C_usr_t g hX.1 h (y1 (C_in_f (lo := 1) (hi := 48) (by decide) (by decide) h2 (y0 ⟨rfl, hX⟩)))
      · unfold J_X6_willMiss
        exact R_usr_t g hM.1 h (y1 (R_in_f (lo := 1) (hi := 48) (by decide) (by decide) h2 (y0 ⟨rfl, hM⟩)))
  · refine Agr.same hS hT (-101) ?_ ?_
    · unfold J_X5_willMiss
      exact C_usr_f g hX.1 h (y0 ⟨rfl, hX⟩)
    · unfold J_X6_willMiss
      exact R_usr_f g hM.1 h (y0 ⟨rfl, hM⟩)
/-- the first of the hours 0 to 48 in which something holds, or 48 -/
theorem first_h (P : Nat → Prop) (m : Nat) : ∃ k, k ≤ m ∧ (∀ i, i < k → ¬ P i) ∧ (k = m ∨ P k) := by
  induction m with
  | zero => exact ⟨0, Nat.le_refl _, fun i h => absurd h (Nat.not_lt_zero _), Or.inl rfl⟩
  | succ m ih =>
    obtain ⟨k, h1, h2, h3⟩ := ih
    by_cases hp : P k
    · exact ⟨k, by omega, h2, Or.inr hp⟩
    · have hk : k = m := by
        rcases h3 with q | q
        · exact q
        · exact absurd q hp
      subst hk
      refine ⟨k + 1, Nat.le_refl _, fun i hi => ?_, Or.inl rfl⟩
      by_cases q : i = k
      · rw [q]; exact hp
      · exact h2 i (by omega)
theorem C_fullQ {τ : Mem} {j u : Nat} {Q : Int32 → Mem → Prop} (hI : Inv T d) (hv : RepX τ j d) (hu : u < d 2) (h1 : d (154 + u) = d (142 + u) → Q 0 τ) (h0 : d (154 + u) ≠ d (142 + u) → ∀ r : Int32, ¬ r = 0 → Q r τ) : J_X4_room j u τ Q := by
  have hb := hI.geo.ug hu
  have b6 := hb.2.2.2.2.2.1
  have b7 := hb.2.2.2.2.2.2.1
  refine C_room hI hv hu ?_
  by_cases q : d (154 + u) = d (142 + u)
  · rw [q, Nat.sub_self]; exact h1 q
  · refine h0 q _ ?_
    rw [fa_lit 0, nI_eq (by omega) (by omega)]
    omega
theorem R_isFull {τ : Mem} {u : Nat} {Q : Int32 → Mem → Prop} (hI : Inv T d) (hv : RepM τ d) (hu : u < d 2) (h1 : d (154 + u) = d (142 + u) → Q 1 τ) (h0 : d (154 + u) ≠ d (142 + u) → Q 0 τ) : J_X6_isFull (nI u) τ Q := by
  have hn := hI.geo.nu
  have hb := hI.geo.ug hu
  have b6 := hb.2.2.2.2.2.1
  have b7 := hb.2.2.2.2.2.2.1
  unfold J_X6_isFull
  rw [fa_lit 154, fa_lit 142, nI_add, nI_add, nI_clamp (by omega), nI_clamp (by omega), hv (154 + u) (by omega), hv (142 + u) (by omega)]
  exact ⟨vp_in_nI (by omega) (by decide), vp_in_nI (by omega) (by decide), br_ne (by omega) (by omega) h1 h0⟩
theorem P_hoursToFull (hS : IS T d b ds n t) (hT : T + 48 ≤ 30000) (hX : WX σ d b ds n t) (hM : WM ρ d b ds n t) (x : Int32) : Agr (T + 48) (J_X5_hoursToFull x σ) (J_X6_hoursToFull x ρ) := by
  have g := hS.geo
  have hn := g.nu
  have hp2 : ∀ k, psn d k 2 = d 2 := fun k => psn_lo hn (by omega)
  by_cases h : Rng 0 (d 2) x
  · obtain ⟨u, -, hu, rfl⟩ := id h
    have hu2 : ∀ k, u < psn d k 2 := fun k => by rw [hp2]; exact hu
    obtain ⟨v, hv, hno, hyes⟩ := first_h (fun k => psn d k (154 + u) = psn d k (142 + u)) 48
    by_cases hfull : psn d v (154 + u) = psn d v (142 + u)
    · refine Agr.same hS hT (nI v) ?_ ?_
      · unfold J_X5_hoursToFull
        refine C_usr_t g hX.1 h (y1 (C_copyFrom g (by decide) hX.1 (fun τ3 hf3 hr3 => ?_)))
        refine lpM v (by omega) (fun k τ' => FrJ 1 σ τ' ∧ RepX τ' 1 (psn d k)) ⟨hf3.fj, hr3⟩ (fun k τ4 I μ hk hP next => ?_)
        obtain ⟨hf, hr⟩ := hP
        have hIk := psn_inv hS.1 (k := k) (by omega)
        rw [fa_lit 48, nI_clamp (by omega)]
        refine br_le (by omega) (by omega) (fun hle => ?_) (fun hlt => ?_)
        · have : k = v := by omega
          subst this
          refine ⟨vp_in_nI (by omega) (by decide), C_fullQ hIk hr (hu2 k) (fun _ => y0 ?_) (fun q => absurd hfull q)⟩
          rw [show k = 48 by omega]
          exact ⟨rfl, hX.fr1 hf⟩
        · refine ⟨vp_in_nI (by omega) (by decide), C_fullQ hIk hr (hu2 k) (fun q => y0 ?_) (fun q r hr0 => k1 hr0 ?_)⟩
          · have : k = v := by
              rcases Nat.lt_or_ge k v with z | z
              · exact absurd q (hno k z)
              · omega
            subst this
            exact ⟨rfl, hX.fr1 hf⟩
          · have hkv : k < v := by
              rcases Nat.lt_or_ge k v with z | z
              · exact z
              · have : k = v := by omega
                subst this
                exact absurd hfull q
            refine C_passHour hIk (by omega) hr (fun τ' hf' hr' => ?_)
            rintro _ rfl
            rw [nI_1]
            exact next hkv _ ⟨hf.tr hf', hr'⟩
      · unfold J_X6_hoursToFull
        refine R_usr_t g hM.1 h (y1 (R_keeps hM.1 (fun τ3 hf3 hk3 => ?_)))
        have done : ∀ τ4 : Mem, (∀ o : Oid, o.1 ≠ 1 → o.1 ≠ 2 → o.1 ≠ 6 → o.1 ≠ 7 → o.1 ≠ 8 → o.1 ≠ 9 → τ4 o = ρ o) → (∀ i, i < 214 → τ4 (2, 0, 0) i = nI (d i)) → RepM τ4 (psn d v) → J_X6_hoursToFull_b41 (nI u) (nI u) (nI v) τ4 (fun r' ρ' => r' = nI v ∧ WM ρ' d b ds n t) := by
          intro τ4 hf hkp hr
          unfold J_X6_hoursToFull_b41
          refine R_isFull (psn_inv hS.1 (k := v) (by omega)) hr (hu2 v) (fun _ => z1 (R_brings hkp (fun τ' hf' hr' => ⟨rfl, hM.fr (FrM.of (fun o q1 q2 q3 q4 q5 q6 _ => ?_)) hr'⟩))) (fun q => absurd hfull q)
          rw [hf' o (oid_ne q1)]
          exact hf o q1 q2 q3 q4 q5 q6
        refine lpM v (by omega) (fun k τ' => (∀ o : Oid, o.1 ≠ 1 → o.1 ≠ 2 → o.1 ≠ 6 → o.1 ≠ 7 → o.1 ≠ 8 → o.1 ≠ 9 → τ' o = ρ o) ∧ (∀ i, i < 214 → τ' (2, 0, 0) i = nI (d i)) ∧ RepM τ' (psn d k)) ⟨fun o _ q2 _ _ _ _ => hf3 o (oid_ne q2), hk3, hM.1.row (hf3 _ (by decide))⟩ (fun k τ4 I μ hk hP next => ?_)
        obtain ⟨hf, hkp, hr⟩ := hP
        have hIk := psn_inv hS.1 (k := k) (by omega)
        rw [fa_lit 48]
        refine br_le (by omega) (by omega) (fun hle => ?_) (fun hlt => ?_)
        · have : k = v := by omega
          subst this
          exact done τ4 hf hkp hr
        · refine R_isFull hIk hr (hu2 k) (fun q => y1 ?_) (fun q => y0 ?_)
          · have : k = v := by
              rcases Nat.lt_or_ge k v with z | z
              · exact absurd q (hno k z)
              · omega
            subst this
            exact done τ4 hf hkp hr
          · have hkv : k < v := by
              rcases Nat.lt_or_ge k v with z | z
              · exact z
              · have : k = v := by omega
                subst this
                exact absurd hfull q
            refine R_passes hIk (by omega) hr (fun τ' hf' hr' => ?_)
            rintro _ rfl
            rw [nI_1]
            refine next hkv _ ⟨fun o q1 q2 q3 q4 q5 q6 => (hf' o q1 q3 q4 q5 q6).trans (hf o q1 q2 q3 q4 q5 q6), fun i hi => ?_, hr'⟩
            rw [hf' _ (by decide) (by decide) (by decide) (by decide) (by decide)]
            exact hkp i hi
    · have h48 : v = 48 := by
        rcases hyes with q | q
        · exact q
        · exact absurd q hfull
      subst h48
      refine Agr.same hS hT (-105) ?_ ?_
      · unfold J_X5_hoursToFull
        refine C_usr_t g hX.1 h (y1 (C_copyFrom g (by decide) hX.1 (fun τ3 hf3 hr3 => ?_)))
        refine lpM 48 (by omega) (fun k τ' => FrJ 1 σ τ' ∧ RepX τ' 1 (psn d k)) ⟨hf3.fj, hr3⟩ (fun k τ4 I μ hk hP next => ?_)
        obtain ⟨hf, hr⟩ := hP
        have hIk := psn_inv hS.1 (k := k) (by omega)
        rw [fa_lit 48, nI_clamp (by omega)]
        refine br_le (by omega) (by omega) (fun hle => ?_) (fun hlt => ?_)
        · have : k = 48 := by omega
          subst this
          exact ⟨vp_in_nI (by omega) (by decide), C_fullQ hIk hr (hu2 48) (fun q => absurd q hfull) (fun _ r hr0 => k1 hr0 ⟨rfl, hX.fr1 hf⟩)⟩
        · refine ⟨vp_in_nI (by omega) (by decide), C_fullQ hIk hr (hu2 k) (fun q => absurd q (hno k hlt)) (fun q r hr0 => k1 hr0 ?_)⟩
          refine C_passHour hIk (by omega) hr (fun τ' hf' hr' => ?_)
          rintro _ rfl
          rw [nI_1]
          exact next hlt _ ⟨hf.tr hf', hr'⟩
      · unfold J_X6_hoursToFull
        refine R_usr_t g hM.1 h (y1 (R_keeps hM.1 (fun τ3 hf3 hk3 => ?_)))
        refine lpM 48 (by omega) (fun k τ' => (∀ o : Oid, o.1 ≠ 1 → o.1 ≠ 2 → o.1 ≠ 6 → o.1 ≠ 7 → o.1 ≠ 8 → o.1 ≠ 9 → τ' o = ρ o) ∧ (∀ i, i < 214 → τ' (2, 0, 0) i = nI (d i)) ∧ RepM τ' (psn d k)) ⟨fun o _ q2 _ _ _ _ => hf3 o (oid_ne q2), hk3, hM.1.row (hf3 _ (by decide))⟩ (fun k τ4 I μ hk hP next => ?_)
        obtain ⟨hf, hkp, hr⟩ := hP
        have hIk := psn_inv hS.1 (k := k) (by omega)
        rw [fa_lit 48]
        refine br_le (by omega) (by omega) (fun hle => ?_) (fun hlt => ?_)
        · have : k = 48 := by omega
          subst this
          unfold J_X6_hoursToFull_b41
          refine R_isFull hIk hr (hu2 48) (fun q => absurd q hfull) (fun _ => z0 (R_brings hkp (fun τ' hf' hr' => ⟨rfl, hM.fr (FrM.of (fun o q1 q2 q3 q4 q5 q6 _ => ?_)) hr'⟩)))
          rw [hf' o (oid_ne q1)]
          exact hf o q1 q2 q3 q4 q5 q6
        · refine R_isFull hIk hr (hu2 k) (fun q => absurd q (hno k hlt)) (fun q => y0 ?_)
          refine R_passes hIk (by omega) hr (fun τ' hf' hr' => ?_)
          rintro _ rfl
          rw [nI_1]
          refine next hlt _ ⟨fun o q1 q2 q3 q4 q5 q6 => (hf' o q1 q3 q4 q5 q6).trans (hf o q1 q2 q3 q4 q5 q6), fun i hi => ?_, hr'⟩
          rw [hf' _ (by decide) (by decide) (by decide) (by decide) (by decide)]
          exact hkp i hi
  · refine Agr.same hS hT (-101) ?_ ?_
    · unfold J_X5_hoursToFull
      exact C_usr_f g hX.1 h (y0 ⟨rfl, hX⟩)
    · unfold J_X6_hoursToFull
      exact R_usr_f g hM.1 h (y0 ⟨rfl, hM⟩)
theorem P_clearText (hS : IS T d b ds n t) (hT : T + 48 ≤ 30000) (hX : WX σ d b ds n t) (hM : WM ρ d b ds n t) : Agr (T + 48) (J_X5_clearText σ) (J_X6_clearText ρ) := by
  obtain ⟨s1, s2, s3, s4⟩ := hS.up (T' := T + 48) (by omega) hT
  obtain ⟨h1, h2, h3, h4⟩ := hX
  obtain ⟨m1, m2, m3, m4⟩ := hM
  refine ⟨nI n, d, b, ds, 0, t, ⟨s1, s2, by omega, fun i hi => absurd hi (Nat.not_lt_zero _)⟩, ?_, ?_⟩
  · unfold J_X5_clearText
    rw [h3]
    rintro _ rfl _ rfl
    have e : ∀ o : Oid, o.1 ≠ 5 → mup σ (5, 0, 0) 0 0 o = σ o := fun o q => mup_o _ _ _ q
    refine ⟨rfl, h1.row (fun o q1 q2 _ => e o (by omega)), fun s hs => ⟨?_, fun q => ((h2 s hs).2 q).row (fun o q1 q2 _ => e o (by omega))⟩, ?_, fun i hi => absurd hi (Nat.not_lt_zero _)⟩
    · rw [e _ (by decide)]; exact (h2 s hs).1
    · rw [mup_same]; rfl
  · unfold J_X6_clearText
    rw [m3]
    rintro _ rfl _ rfl
    have e : ∀ o : Oid, o.1 ≠ 0 → mup ρ (0, 0, 0) 5 0 o = ρ o := fun o q => mup_o _ _ _ q
    refine ⟨rfl, m1.row (e _ (by decide)), fun s hs => ⟨?_, fun q k hk => ?_⟩, ?_, fun i hi => absurd hi (Nat.not_lt_zero _)⟩
    · rw [e _ (by decide)]; exact (m2 s hs).1
    · rw [e _ (by decide)]; exact (m2 s hs).2 q k hk
    · rw [mup_same]; rfl
theorem P_append (hS : IS T d b ds n t) (hT : T + 48 ≤ 30000) (hX : WX σ d b ds n t) (hM : WM ρ d b ds n t) (x : Int32) : Agr (T + 48) (J_X5_append x σ) (J_X6_append x ρ) := by
  have hn := hS.2.2.1
  by_cases h : Rng 0 128 x
  · by_cases h2 : n = 100
    · refine Agr.same hS hT (-104) ?_ ?_
      · unfold J_X5_append
        refine C_in_t (lo := 0) (hi := 127) (by decide) h (y1 ?_)
        unfold J_X3_isFull
        rw [hX.2.2.1, h2]
        exact i0 (by decide) (z1 ⟨rfl, h2 ▸ hX⟩)
      · unfold J_X6_append
        refine R_in_t (lo := 0) (hi := 127) (by decide) h (y1 ?_)
        rw [hM.2.2.1, h2]
        exact k0 rfl ⟨rfl, h2 ▸ hM⟩
    · obtain ⟨v, -, hv, rfl⟩ := id h
      obtain ⟨s1, s2, s3, s4⟩ := hS.up (T' := T + 48) (by omega) hT
      refine ⟨nI (n + 1), d, b, ds, n + 1, fun i => if i = n then v else t i, ⟨s1, s2, by omega, fun i hi => ?_⟩, ?_, ?_⟩
      · by_cases q : i = n
        · simp only [q, if_true]; omega
        · simp only [q, if_false]
          exact s4 i (by omega)
      · obtain ⟨h1, h2', h3, h4⟩ := hX
        unfold J_X5_append
        refine C_in_t (lo := 0) (hi := 127) (by decide) h (y1 ?_)
        unfold J_X3_put J_X3_isFull
        rw [h3, fa_lit 100]
        refine br_lt (by omega) (by omega) (fun _ => z0 ?_) (fun q => absurd q (by omega))
        rw [h3]
        refine br_lt (by omega) (by omega) (fun _ => z0 ?_) (fun q => absurd q (by omega))
        rw [h3, nI_clamp (by omega)]
        have ev : vp_nar .char (((nI v).toUInt32 % 65536).toInt32) = nI v := by
          rw [pk_vc, pk_char, pk_tn (by omega), Nat.mod_eq_of_lt (by omega)]
        refine ⟨vp_in_nI (by omega) (by decide), ?_⟩
        have ev' : vp_nar .char (((nI v).toUInt32 % 65536).toInt32) = nI v := ev
        rw [ev']
        rintro _ rfl
        rw [mup_k _ _ _ (by decide : (5 : Nat) ≠ 6), h3, nI_1]
        rintro _ rfl
        rw [mup_same]
        have e : ∀ o : Oid, o.1 ≠ 5 → o.1 ≠ 6 → mup (mup σ (6, 0, 0) n (nI v)) (5, 0, 0) 0 (nI (n + 1)) o = σ o := fun o q q' => by rw [mup_o _ _ _ q, mup_o _ _ _ q']
        refine ⟨rfl, h1.row (fun o q1 q2 _ => e o (by omega) (by omega)), fun s hs => ⟨?_, fun q => ((h2' s hs).2 q).row (fun o q1 q2 _ => e o (by omega) (by omega))⟩, ?_, fun i hi => ?_⟩
        · rw [e _ (by decide) (by decide)]; exact (h2' s hs).1
        · rw [mup_same]
        · rw [mup_k _ _ _ (by decide : (6 : Nat) ≠ 5), mup_at]
          by_cases q : i = n
          · simp only [q, if_true]
          · simp only [q, if_false]
            exact h4 i (by omega)
      · obtain ⟨h1, h2', h3, h4⟩ := hM
        unfold J_X6_append
        refine R_in_t (lo := 0) (hi := 127) (by decide) h (y1 ?_)
        rw [h3, fa_lit 100]
        refine br_ne (by omega) (by omega) (fun q => absurd q h2) (fun _ => ?_)
        rw [nI_clamp (by omega)]
        refine ⟨vp_in_nI (by omega) (by decide), ?_⟩
        rintro _ rfl
        rw [mup_k _ _ _ (by decide : (0 : Nat) ≠ 5), h3, nI_1]
        rintro _ rfl
        rw [mup_same]
        have e : ∀ o : Oid, o.1 ≠ 0 → o.1 ≠ 5 → mup (mup ρ (5, 0, 0) n (nI v)) (0, 0, 0) 5 (nI (n + 1)) o = ρ o := fun o q q' => by rw [mup_o _ _ _ q, mup_o _ _ _ q']
        refine ⟨rfl, h1.row (e _ (by decide) (by decide)), fun s hs => ⟨?_, fun q k hk => ?_⟩, ?_, fun i hi => ?_⟩
        · rw [e _ (by decide) (by decide)]; exact (h2' s hs).1
        · rw [e _ (by decide) (by decide)]; exact (h2' s hs).2 q k hk
        · rw [mup_same]
        · rw [mup_k _ _ _ (by decide : (5 : Nat) ≠ 0), mup_at]
          by_cases q : i = n
          · simp only [q, if_true]
          · simp only [q, if_false]
            exact h4 i (by omega)
  · refine Agr.same hS hT (-102) ?_ ?_
    · unfold J_X5_append
      exact C_in_f (lo := 0) (hi := 127) (by decide) (by decide) h (y0 ⟨rfl, hX⟩)
    · unfold J_X6_append
      exact R_in_f (lo := 0) (hi := 127) (by decide) (by decide) h (y0 ⟨rfl, hM⟩)
theorem P_save (hS : IS T d b ds n t) (hT : T + 48 ≤ 30000) (hX : WX σ d b ds n t) (hM : WM ρ d b ds n t) (x : Int32) : Agr (T + 48) (J_X5_save x σ) (J_X6_save x ρ) := by
  have g := hS.geo
  by_cases h : Rng 0 2 x
  · obtain ⟨v, -, hv, rfl⟩ := id h
    obtain ⟨s1, s2, s3, s4⟩ := hS.up (T' := T + 48) (by omega) hT
    refine ⟨nI (d 0), d, fun q => if q = v then 1 else b q, fun q => if q = v then d else ds q, n, t, ⟨s1, fun s hs => ?_, s3, s4⟩, ?_, ?_⟩
    · by_cases q : s = v
      · simp only [q, if_true]
        exact ⟨Nat.le_refl _, fun _ => s1⟩
      · simp only [q, if_false]
        exact s2 s hs
    · obtain ⟨h1, h2', h3, h4⟩ := hX
      unfold J_X5_save
      refine C_in_t (lo := 0) (hi := 1) (by decide) h (y1 ⟨vp_in_nI hv (by decide), ?_⟩)
      rw [nI_clamp (by omega)]
      refine C_copyFrom g (by omega) h1 (fun τ4 hf4 hr4 => ⟨vp_in_nI hv (by decide), ?_⟩)
      have e1 : vp_nar .boolean 1 = nI 1 := by decide +kernel
      rw [e1]
      rintro _ rfl
      have e : ∀ o : Oid, o.1 ≠ 2 → mup τ4 (2, 0, 0) v (nI 1) o = τ4 o := fun o q => mup_o _ _ _ q
      have r0 : RepX (mup τ4 (2, 0, 0) v (nI 1)) 0 d := h1.row (fun o q1 q2 q3 => by rw [e o (by omega)]; exact hf4 o (by omega))
      rw [r0.tm]
      refine ⟨rfl, r0, fun s hs => ⟨?_, fun q => ?_⟩, ?_, fun i hi => ?_⟩
      · rw [mup_at]
        by_cases q : s = v
        · simp only [q, if_true]
        · simp only [q, if_false]
          rw [hf4 _ (Or.inl (by decide))]
          exact (h2' s hs).1
      · by_cases z : s = v
        · simp only [z, if_true]
          exact hr4.row (fun o q1 q2 q3 => e o (by omega))
        · simp only [z, if_false] at q ⊢
          exact ((h2' s hs).2 q).row (fun o q1 q2 q3 => by rw [e o (by omega)]; exact hf4 o (by omega))
      · rw [e _ (by decide), hf4 _ (Or.inl (by decide))]; exact h3
      · rw [e _ (by decide), hf4 _ (Or.inl (by decide))]; exact h4 i hi
    · obtain ⟨h1, h2', h3, h4⟩ := hM
      unfold J_X6_save
      refine R_in_t (lo := 0) (hi := 1) (by decide) h (y1 ?_)
      refine lpM 214 (by decide) (fun k τ' => (∀ o : Oid, o ≠ (3, 0, 0) → τ' o = ρ o) ∧ (∀ i, i < k → τ' (3, 0, 0) (214 * v + i) = nI (d i)) ∧ ∀ i, i < 428 → (i < 214 * v ∨ 214 * v + 214 ≤ i) → τ' (3, 0, 0) i = ρ (3, 0, 0) i) ⟨fun _ _ => rfl, fun i hi => absurd hi (Nat.not_lt_zero _), fun _ _ _ => rfl⟩ (fun k τ3 I μ hk hP next => ?_)
      obtain ⟨hf, hp, ho⟩ := hP
      rw [fa_lit 214]
      refine br_le (by decide) (by omega) (fun hle => ?_) (fun hlt => ?_)
      · have : k = 214 := by omega
        subst this
        have e1 : vp_nar .boolean 1 = nI 1 := by decide +kernel
        rw [nI_clamp (by omega), e1]
        refine ⟨vp_in_nI hv (by decide), ?_⟩
        rintro _ rfl
        have e : ∀ o : Oid, o.1 ≠ 3 → o.1 ≠ 4 → mup τ3 (4, 0, 0) v (nI 1) o = ρ o := fun o q q' => by rw [mup_o _ _ _ q', hf o (oid_ne q)]
        have r0 : RepM (mup τ3 (4, 0, 0) v (nI 1)) d := h1.row (e _ (by decide) (by decide))
        rw [r0 0 (by decide)]
        refine ⟨rfl, r0, fun s hs => ⟨?_, fun q k hk => ?_⟩, ?_, fun i hi => ?_⟩
        · rw [mup_at]
          by_cases q : s = v
          · simp only [q, if_true]
          · simp only [q, if_false]
            rw [hf _ (by decide)]
            exact (h2' s hs).1
        · rw [mup_k _ _ _ (by decide : (3 : Nat) ≠ 4)]
          by_cases z : s = v
          · simp only [z, if_true]
            exact hp k hk
          · simp only [z, if_false] at q ⊢
            rw [ho _ (by omega) (by omega)]
            exact (h2' s hs).2 q k hk
        · rw [e _ (by decide) (by decide)]; exact h3
        · rw [e _ (by decide) (by decide)]; exact h4 i hi
      · have e : τ3 (1, 0, 0) k = nI (d k) := by rw [hf _ (by decide)]; exact h1 k hlt
        rw [pk_mul, nI_add, nI_clamp (by omega), nI_clamp (by omega), e]
        refine ⟨vp_in_nI hlt (by decide), vp_in_nI (by omega) (by decide), ?_⟩
        rintro _ rfl _ rfl
        rw [nI_1]
        refine next hlt _ ⟨fun o q => by rw [mup_ne _ _ _ q]; exact hf o q, fun i hi => ?_, fun i h1 h2 => ?_⟩
        · rw [mup_at]
          by_cases z : i = k
          · rw [z, if_pos rfl]
          · rw [if_neg (by omega)]; exact hp i (by omega)
        · rw [mup_at, if_neg (by omega)]
          exact ho i h1 h2
  · refine Agr.same hS hT (-101) ?_ ?_
    · unfold J_X5_save
      exact C_in_f (lo := 0) (hi := 1) (by decide) (by decide) h (y0 ⟨rfl, hX⟩)
    · unfold J_X6_save
      exact R_in_f (lo := 0) (hi := 1) (by decide) (by decide) h (y0 ⟨rfl, hM⟩)
theorem P_restore (hS : IS T d b ds n t) (hT : T + 48 ≤ 30000) (hX : WX σ d b ds n t) (hM : WM ρ d b ds n t) (x : Int32) : Agr (T + 48) (J_X5_restore x σ) (J_X6_restore x ρ) := by
  by_cases h : Rng 0 2 x
  · obtain ⟨v, -, hv, rfl⟩ := id h
    have hb := (hS.2.1 v hv).1
    by_cases hb0 : b v = 0
    · refine Agr.same hS hT (-103) ?_ ?_
      · unfold J_X5_restore
        refine C_in_t (lo := 0) (hi := 1) (by decide) h (y1 ⟨vp_in_nI hv (by decide), ?_⟩)
        rw [nI_clamp (by omega), (hX.2.1 v hv).1, hb0]
        exact k0 rfl ⟨rfl, hX⟩
      · unfold J_X6_restore
        refine R_in_t (lo := 0) (hi := 1) (by decide) h (y1 ⟨vp_in_nI hv (by decide), ?_⟩)
        rw [nI_clamp (by omega), (hM.2.1 v hv).1, hb0]
        exact k0 rfl ⟨rfl, hM⟩
    · have hb1 : b v = 1 := by omega
      have hIv := (hS.2.1 v hv).2 hb1
      have hXv := (hX.2.1 v hv).2 hb1
      have hMv := (hM.2.1 v hv).2 hb1
      refine Agr.to hS (ds v) (hIv.up (by omega) hT) (nI (ds v 0)) ?_ ?_
      · unfold J_X5_restore
        refine C_in_t (lo := 0) (hi := 1) (by decide) h (y1 ⟨vp_in_nI hv (by decide), ?_⟩)
        rw [nI_clamp (by omega), (hX.2.1 v hv).1, hb1]
        refine k1 (by decide) ⟨vp_in_nI hv (by decide), C_copyFrom hIv.geo (by omega) hXv (fun τ6 hf6 hr6 => ?_)⟩
        rw [hr6.tm]
        exact ⟨rfl, hX.fr0 hf6.fj hr6⟩
      · unfold J_X6_restore
        refine R_in_t (lo := 0) (hi := 1) (by decide) h (y1 ⟨vp_in_nI hv (by decide), ?_⟩)
        rw [nI_clamp (by omega), (hM.2.1 v hv).1, hb1]
        refine k1 (by decide) ?_
        refine lpM 214 (by decide) (fun k τ' => (∀ o : Oid, o ≠ (1, 0, 0) → τ' o = ρ o) ∧ ∀ i, i < k → τ' (1, 0, 0) i = nI (ds v i)) ⟨fun _ _ => rfl, fun i hi => absurd hi (Nat.not_lt_zero _)⟩ (fun k τ5 I μ hk hP next => ?_)
        obtain ⟨hf, hp⟩ := hP
        rw [fa_lit 214]
        refine br_le (by decide) (by omega) (fun hle => ?_) (fun hlt => ?_)
        · have : k = 214 := by omega
          subst this
          rw [hp 0 (by decide)]
          exact ⟨rfl, hM.fr (FrM.of (fun o q _ _ _ _ _ _ => hf o (oid_ne q))) hp⟩
        · have e : τ5 (3, 0, 0) (214 * v + k) = nI (ds v k) := by rw [hf _ (by decide)]; exact hMv k hlt
          rw [pk_mul, nI_add, nI_clamp (by omega), nI_clamp (by omega), e]
          refine ⟨vp_in_nI (by omega) (by decide), vp_in_nI hlt (by decide), ?_⟩
          rintro _ rfl _ rfl
          rw [nI_1]
          refine next hlt _ ⟨fun o q => by rw [mup_ne _ _ _ q]; exact hf o q, fun i hi => ?_⟩
          rw [mup_at]
          by_cases z : i = k
          · rw [z, if_pos rfl]
          · rw [if_neg z]; exact hp i (by omega)
  · refine Agr.same hS hT (-101) ?_ ?_
    · unfold J_X5_restore
      exact C_in_f (lo := 0) (hi := 1) (by decide) (by decide) h (y0 ⟨rfl, hX⟩)
    · unfold J_X6_restore
      exact R_in_f (lo := 0) (hi := 1) (by decide) (by decide) h (y0 ⟨rfl, hM⟩)
end C4
