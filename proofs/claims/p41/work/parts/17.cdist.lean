/-! PART 17: the class's distribution of an hour -/
section CD
variable {T : Nat} {d : Dst} {τ : Mem} {j : Nat}
theorem C_inflowFor {i y : Nat} {Q : Int32 → Mem → Prop} (hI : Inv T d) (hv : RepX τ j d) (hi : i < d 1) (hy : y ≤ 3440640) (hQ : Q (nI (infl (d (60 + i)) y)) τ) : J_X0_inflowFor j i (nI y) τ Q := by
  have hl := hI.1.2.2.2.1 i hi
  unfold J_X0_inflowFor
  rw [hv.lo hi, fa_lit 100, pk_sub (by omega)]
  rintro _ rfl
  rw [fa_lit 0, fa_lit 1]
  refine br_le (by omega) (by omega) (fun h => absurd h (by omega)) (fun h => ⟨fun q => absurd ((nI_eq (by omega) (by omega)).mp q) (by omega), ?_⟩)
  rw [pk_mul, nI_add, pk_sub (by omega), pk_div (by omega) (by omega) (by omega)]
  exact hQ
theorem C_passedOf {i m : Nat} {Q : Int32 → Mem → Prop} (hI : Inv T d) (hv : RepX τ j d) (hi : i < d 1) (hm : m ≤ 200) (hQ : Q (nI (psd (d (60 + i)) m)) τ) : J_X0_passedOf j i (nI m) τ Q := by
  have hl := hI.1.2.2.2.1 i hi
  have h1 : m * d (60 + i) ≤ m * 50 := Nat.mul_le_mul_left m hl
  unfold J_X0_passedOf
  rw [hv.lo hi, fa_lit 99, fa_lit 100, pk_mul, nI_add, pk_div (by omega) (by omega) (by omega), pk_sub (by omega)]
  exact hQ
theorem C_giveShares {k : Nat} {Q : Mem → Prop} (hI : Inv T d) (hv : RepX τ j d) (hk : Arr τ (4, 0, 0) (d 2) (ask d)) (h100 : k ≤ 100)
    (hQ : ∀ τ' : Mem, (∀ o : Oid, o ≠ (4, 1, 0) → τ' o = τ o) → Arr τ' (4, 1, 0) (d 2) (shr d k) → Q τ') : J_X1_giveShares j (nI k) τ Q := by
  obtain ⟨hT, hN, hn, h3, h4, h0, hTT, hA, hS, hG, hU, hR⟩ := id hI
  unfold J_X1_giveShares
  refine lpM (d 2) (by omega) (fun m τ' => (∀ o : Oid, o ≠ (4, 1, 0) → τ' o = τ o) ∧ Arr τ' (4, 1, 0) m (shr d k)) ⟨fun _ _ => rfl, fun i hi => absurd hi (Nat.not_lt_zero _)⟩ (fun m τ3 I3 μ3 hm hP3 next3 => ?_)
  obtain ⟨hf3, hp3⟩ := hP3
  have hv3 : RepX τ3 j d := hv.row (fun o h1 h2 _ => hf3 o (fun z => by rw [z] at h1; exact absurd h1 (by decide)))
  have hk3 : Arr τ3 (4, 0, 0) (d 2) (ask d) := hk.row (hf3 _ (by decide))
  rw [hv3.nu]
  refine br_le (by omega) (by omega) (fun hle => ?_) (fun hlt => ?_)
  · have hmm : m = d 2 := by omega
    subst hmm
    exact hQ τ3 hf3 hp3
  · have hal := ask_le (hU m hlt)
    have hmul : ask d m * k ≤ 560 * 100 := Nat.mul_le_mul hal h100
    rw [nI_clamp (by omega), hk3 m hlt, fa_lit 100, pk_mul, pk_div (by omega) (by decide) (by decide)]
    refine ⟨vp_in_nI (by omega) (by decide), vp_in_nI (by omega) (by decide), ?_⟩
    rintro _ rfl _ rfl
    rw [nI_1]
    refine next3 hlt _ ⟨fun o g1 => ?_, hp3.push⟩
    rw [mup_ne _ _ _ g1]
    exact hf3 o g1
theorem C_spread {a : Nat → Nat} {Q : Mem → Prop} (hI : Inv T d) (hv : RepX τ j d) (ha : Arr τ (4, 1, 0) (d 2) a) (hb : ∀ u, u < d 2 → a u ≤ 560)
    (hQ : ∀ τ' : Mem, (∀ o : Oid, o.1 ≠ 15 → τ' o = τ o) → Arr τ' (15, 0, 0) (d 1) (FF d a) → Arr τ' (15, 1, 0) (d 1) (FP d a) → Q τ') : J_X1_spread j τ Q := by
  obtain ⟨hT, hN, hn, h3, h4, h0, hTT, hA, hS, hG, hU, hR⟩ := id hI
  have hFP : ∀ k, k < d 1 → FP d a k ≤ 3440640 := fun k hk => FP_le hT hN hn hb hk
  have hFF : ∀ k, k < d 1 → FF d a k ≤ 6881280 := fun k hk => FF_le hT hN hn hb hk
  have rw15 : ∀ {τ' : Mem}, (∀ o : Oid, o.1 ≠ 15 → τ' o = τ o) → RepX τ' j d := fun h => hv.row (fun o h1 h2 _ => h o (by omega))
  unfold J_X1_spread
  refine lpM (d 1) (by omega) (fun k τ' => (∀ o : Oid, o.1 ≠ 15 → τ' o = τ o) ∧ Arr τ' (15, 1, 0) k (fun _ => 0)) ⟨fun _ _ => rfl, fun i hi => absurd hi (Nat.not_lt_zero _)⟩ (fun k τ1 I μ hk hP next => ?_)
  obtain ⟨hf, hp⟩ := hP
  have hv1 := rw15 hf
  rw [hv1.nd]
  refine br_le (by omega) (by omega) (fun hle => ?_) (fun hlt => ?_)
  · have hkk : k = d 1 := by omega
    subst hkk
    refine lpM (d 2) (by omega) (fun m τ' => (∀ o : Oid, o.1 ≠ 15 → τ' o = τ o) ∧ Arr τ' (15, 1, 0) (d 1) (fun i => pu d a i m)) ⟨hf, hp⟩ (fun m τ3 I3 μ3 hm hP3 next3 => ?_)
    obtain ⟨hf3, hp3⟩ := hP3
    have hv3 := rw15 hf3
    rw [hv3.nu]
    refine br_le (by omega) (by omega) (fun hle2 => ?_) (fun hlt2 => ?_)
    · have hmm : m = d 2 := by omega
      subst hmm
      rintro _ rfl
      refine lpD (d 1) (by rw [hv3.nd]; rfl) (by omega) (fun k τ' => (∀ o : Oid, o.1 ≠ 15 → τ' o = τ o) ∧ Arr τ' (15, 1, 0) (d 1) (gk d a k) ∧ (∀ i, k ≤ i → i < d 1 → τ' (15, 0, 0) i = nI (FF d a i))) ?_ ?_ ?_
      · exact ⟨hf3, hp3.congr (fun i _ => (gk_top a i).symm), fun i h1 h2 => absurd h1 (by omega)⟩
      · intro τ6 I6 μ6 hP6
        obtain ⟨hf6, hp6, hq6⟩ := hP6
        refine ⟨fun _ => hQ τ6 hf6 (fun i hi => hq6 i (Nat.zero_le _) hi) (hp6.congr (fun i _ => gk_zero hT a i)), fun h => absurd (by decide) h⟩
      · intro q τ6 I6 μ6 hj hP6 next6
        obtain ⟨hf6, hp6, hq6⟩ := hP6
        have hv6 := rw15 hf6
        have hFPj := hFP q hj
        have hFFj := hFF q hj
        refine ⟨fun h => absurd h (nI_pos (by omega)), fun _ => ⟨vp_in_nI (by omega) (by decide), vp_in_nI (by omega) (by decide), ?_⟩⟩
        rw [nI_clamp (by omega), hp6 q hj, gk_own hT a hj]
        refine C_inflowFor hI hv6 hj hFPj ⟨vp_in_nI (by omega) (by decide), ?_⟩
        rw [← FF_fix a hT hj]
        rintro _ rfl
        have hf7 : ∀ o : Oid, o.1 ≠ 15 → mup τ6 (15, 0, 0) q (nI (FF d a q)) o = τ o := fun o h1 => by
          rw [mup_ne _ _ _ (fun z => h1 (by rw [z]))]
          exact hf6 o h1
        have hv7 := rw15 hf7
        have hq7 : ∀ i, q ≤ i → i < d 1 → mup τ6 (15, 0, 0) q (nI (FF d a q)) (15, 0, 0) i = nI (FF d a i) := by
          intro i h1 h2
          rw [mup_at]
          by_cases hij : i = q
          · rw [if_pos hij, hij]
          · rw [if_neg hij]
            exact hq6 i (by omega) h2
        rw [fa_lit 0]
        refine br_le (by omega) (by omega) (fun hj0 => ?_) (fun hj0 => ?_)
        · rintro _ rfl
          refine next6 _ ⟨hf7, ?_, hq7⟩
          intro i hi
          rw [mup_ne _ _ _ (by decide), hp6 i hi, gk_step a hj, if_neg (by omega)]
          rfl
        · have hpj := hT.2.2.1 q hj0 hj
          rw [hv7.pa hj, nI_clamp (by omega), mup_same]
          have e9 : mup τ6 (15, 0, 0) q (nI (FF d a q)) (15, 1, 0) (d (40 + q)) = nI (gk d a (q + 1) (d (40 + q))) := by
            rw [mup_ne _ _ _ (by decide)]
            exact hp6 _ (by omega)
          rw [e9, nI_add]
          refine ⟨vp_in_nI (by omega) (by decide), vp_in_nI (by omega) (by decide), vp_in_nI (by omega) (by decide), vp_in_nI (by omega) (by decide), ?_⟩
          rintro _ rfl _ rfl
          refine next6 _ ⟨fun o h1 => ?_, ?_, ?_⟩
          · rw [mup_ne _ _ _ (fun z => h1 (by rw [z]))]
            exact hf7 o h1
          · intro i hi
            rw [mup_at, gk_step a hj]
            by_cases hq : i = d (40 + q)
            · rw [if_pos hq, if_pos ⟨hj0, hq.symm⟩, hq]
            · rw [if_neg hq, if_neg (fun z => hq z.2.symm), mup_ne _ _ _ (by decide)]
              exact hp6 i hi
          · intro i h1 h2
            rw [mup_ne _ _ _ (by decide)]
            exact hq7 i h1 h2
    · have hat := hT.2.2.2.2 m hlt2
      have e7 : τ3 (4, 1, 0) m = nI (a m) := by rw [hf3 _ (by decide)]; exact ha m hlt2
      rw [nI_clamp (by omega), hv3.u0 hlt2, nI_clamp (by omega), e7, hp3 _ hat, nI_add]
      refine ⟨vp_in_nI (by omega) (by decide), vp_in_nI (by omega) (by decide), vp_in_nI (by omega) (by decide), vp_in_nI (by omega) (by decide), ?_⟩
      rintro _ rfl _ rfl
      rw [nI_1]
      refine next3 hlt2 _ ⟨fun o h1 => ?_, fun i hi => ?_⟩
      · rw [mup_ne _ _ _ (fun z => h1 (by rw [z]))]
        exact hf3 o h1
      · rw [mup_at]
        simp only [pu]
        by_cases hq : i = d (70 + m)
        · rw [if_pos hq, if_pos hq.symm, hq]
        · rw [if_neg hq, if_neg (fun z => hq z.symm)]
          exact hp3 i hi
  · rw [nI_clamp (by omega), fa_lit 0]
    refine ⟨vp_in_nI (by omega) (by decide), ?_⟩
    rintro _ rfl _ rfl
    rw [nI_1]
    refine next hlt _ ⟨fun o h1 => ?_, hp.push⟩
    rw [mup_ne _ _ _ (fun z => h1 (by rw [z]))]
    exact hf o h1
theorem C_isPossible {a : Nat → Nat} {Q : Int32 → Mem → Prop} (hI : Inv T d) (hv : RepX τ j d) (hF : Arr τ (15, 0, 0) (d 1) (FF d a)) (hs : τ (3, 0, 0) 5 = nI (sup d)) (hb : ∀ u, u < d 2 → a u ≤ 560)
    (hQ1 : Poss d a → Q 1 τ) (hQ0 : ¬ Poss d a → Q 0 τ) : J_X1_isPossible j τ Q := by
  obtain ⟨hT, hN, hn, h3, h4, h0, hTT, hA, hS, hG, hU, hR⟩ := id hI
  have hFF : ∀ k, k < d 1 → FF d a k ≤ 6881280 := fun k hk => FF_le hT hN hn hb hk
  have hsup : sup d ≤ 200 := hS _ (hr_lt d)
  have hF0 := hFF 0 hT.1
  unfold J_X1_isPossible
  rw [hF 0 hT.1, hs]
  refine br_le (by omega) (by omega) (fun h => ?_) (fun h => hQ0 (fun p => absurd p.2 (by omega)))
  refine lpC (d 1) (by omega) (fun k => ∀ i, i < k → FF d a i ≤ d (50 + i)) (fun i hi => absurd hi (Nat.not_lt_zero _)) (fun k I μ hk hP next => ?_)
  rw [hv.nd]
  refine br_le (by omega) (by omega) (fun hle => hQ1 ⟨fun i hi => hP i (by omega), h⟩) (fun hlt => ?_)
  have hFk := hFF k hlt
  have hGk := (hG k hlt).2
  rw [nI_clamp (by omega), hF k hlt, hv.ga hlt]
  refine ⟨vp_in_nI (by omega) (by decide), vp_in_nI (by omega) (by decide), ?_⟩
  refine br_le (by omega) (by omega) (fun h5 => ?_) (fun h5 => hQ0 (fun p => absurd (p.1 k hlt) (by omega)))
  rintro _ rfl
  rw [nI_1]
  refine next hlt (fun i hi => ?_)
  by_cases hq : i = k
  · rw [hq]; exact h5
  · exact hP i (by omega)
theorem two_half : ∀ m : Nat, m ≤ 6 → nI (2 ^ (m + 1) / 2) / 2 = nI (2 ^ m / 2) := by
  intro m hm
  have h1 : 2 ^ m ≤ 2 ^ 6 := Nat.pow_le_pow_right (by decide) hm
  rw [fa_lit 2, Nat.pow_succ, Nat.mul_div_cancel _ (by decide), pk_div (by omega) (by decide) (by decide)]
theorem C_giveGreatestShares {Q : Mem → Prop} (hI : Inv T d) (hv : RepX τ j d) (hk : Arr τ (4, 0, 0) (d 2) (ask d)) (hs : τ (3, 0, 0) 5 = nI (sup d))
    (hQ : ∀ τ' : Mem, (∀ o : Oid, o ≠ (4, 1, 0) → o.1 ≠ 15 → τ' o = τ o) → Arr τ' (4, 1, 0) (d 2) (shr d (kmx d)) → Q τ') : J_X1_giveGreatestShares j τ Q := by
  obtain ⟨hT, hN, hn, h3, h4, h0, hTT, hA, hS, hG, hU, hR⟩ := id hI
  have hask : ∀ v, v < d 2 → ask d v ≤ 560 := fun v hv => ask_le (hU v hv)
  have rw15 : ∀ {τ' : Mem}, (∀ o : Oid, o ≠ (4, 1, 0) → o.1 ≠ 15 → τ' o = τ o) → RepX τ' j d := fun h => hv.row (fun o h1 h2 _ => h o (fun z => by rw [z] at h1; exact absurd h1 (by decide)) (by omega))
  unfold J_X1_giveGreatestShares
  refine ⟨fun x2 x3 τ' => (∀ o : Oid, o ≠ (4, 1, 0) → o.1 ≠ 15 → τ' o = τ o) ∧ ∃ m p, m ≤ 7 ∧ p ≤ 100 ∧ x3 = nI (2 ^ m / 2) ∧ x2 = nI p ∧ Poss d (shr d p) ∧ ∀ q, q ≤ 100 → p + 2 ^ m ≤ q → ¬ Poss d (shr d q), fun _ x3 _ => x3.toNatClampNeg, ⟨fun _ _ _ => rfl, 7, 0, by decide, by decide, rfl, rfl, Poss_shr_zero hT, fun q h1 h2 => absurd h2 (by omega)⟩, ?_⟩
  rintro x2 x3 τ1 ⟨hf, m, p, hm, hp, rfl, rfl, hP, hM⟩
  have hv1 := rw15 hf
  have hk1 : Arr τ1 (4, 0, 0) (d 2) (ask d) := hk.row (hf _ (by decide) (by decide))
  have hs1 : τ1 (3, 0, 0) 5 = nI (sup d) := by rw [hf _ (by decide) (by decide)]; exact hs
  rw [fa_lit 0]
  have hpw : 2 ^ m ≤ 2 ^ 7 := Nat.pow_le_pow_right (by decide) hm
  refine br_le (by omega) (by omega) (fun hle => ?_) (fun hlt => ?_)
  · have hm0 : m = 0 := by
      rcases Nat.eq_zero_or_pos m with q | q
      · exact q
      · obtain ⟨e, rfl⟩ : ∃ e, m = e + 1 := ⟨m - 1, by omega⟩
        have h1 : 1 ≤ 2 ^ e := Nat.one_le_two_pow
        rw [Nat.pow_succ, Nat.mul_div_cancel _ (by decide)] at hle
        omega
    subst hm0
    have ek : kmx d = p := kmx_of hT hp hP (fun q h1 h2 => hM q h1 (by rw [Nat.pow_zero]; exact h2))
    refine C_giveShares hI hv1 hk1 hp (fun τ3 hf3 ha3 => ?_)
    exact hQ τ3 (fun o g1 g2 => (hf3 o g1).trans (hf o g1 g2)) (by rw [ek]; exact ha3)
  · obtain ⟨e, rfl⟩ : ∃ e, m = e + 1 := by
      rcases Nat.eq_zero_or_pos m with q | q
      · subst q
        exact absurd hlt (by decide)
      · exact ⟨m - 1, by omega⟩
    have e2 : 2 ^ (e + 1) / 2 = 2 ^ e := by rw [Nat.pow_succ, Nat.mul_div_cancel _ (by decide)]
    have e3 : (2 : Nat) ^ (e + 1) = 2 ^ e + 2 ^ e := by rw [Nat.pow_succ]; omega
    have h1 : 1 ≤ 2 ^ e := Nat.one_le_two_pow
    have dec : (nI (2 ^ e / 2)).toNatClampNeg < (nI (2 ^ (e + 1) / 2)).toNatClampNeg := by
      rw [e2, nI_clamp (by omega), nI_clamp (by omega)]
      omega
    rw [two_half e (by omega), nI_add, fa_lit 100]
    rw [e2] at dec ⊢
    refine br_lt (by omega) (by omega) (fun h => ?_) (fun h => ?_)
    · rintro _ rfl
      exact ⟨⟨hf, e, p, by omega, hp, rfl, rfl, hP, fun q g1 g2 => absurd g1 (by omega)⟩, dec⟩
    · refine C_giveShares hI hv1 hk1 h (fun τ6 hf6 ha6 => ?_)
      have hff6 : ∀ o : Oid, o ≠ (4, 1, 0) → o.1 ≠ 15 → τ6 o = τ o := fun o g1 g2 => (hf6 o g1).trans (hf o g1 g2)
      have hb6 : ∀ u, u < d 2 → shr d (p + 2 ^ e) u ≤ 560 := fun v hv => Nat.le_trans (shr_le h v) (hask v hv)
      refine C_spread hI (rw15 hff6) ha6 hb6 (fun τ7 hf7 hF7 hP7 => ?_)
      have hff7 : ∀ o : Oid, o ≠ (4, 1, 0) → o.1 ≠ 15 → τ7 o = τ o := fun o g1 g2 => (hf7 o g2).trans (hff6 o g1 g2)
      have hs7 : τ7 (3, 0, 0) 5 = nI (sup d) := by rw [hff7 _ (by decide) (by decide)]; exact hs
      refine C_isPossible hI (rw15 hff7) hF7 hs7 hb6 (fun hp8 => ?_) (fun hp8 => ?_)
      · refine ⟨fun q => absurd q (by decide), fun _ => ?_⟩
        rintro _ rfl _ rfl
        exact ⟨⟨hff7, e, p + 2 ^ e, by omega, h, rfl, rfl, hp8, fun q g1 g2 => hM q g1 (by omega)⟩, dec⟩
      · refine ⟨fun _ => ?_, fun q => absurd rfl q⟩
        rintro _ rfl
        refine ⟨⟨hff7, e, p, by omega, hp, rfl, rfl, hP, fun q g1 g2 => fun z => hp8 (Poss.mono hT (fun u _ => shr_mono g2 u) z)⟩, dec⟩
theorem mst_le {a : Nat → Nat} (hI : Inv T d) {i : Nat} (hi : i < d 1) : mst d a i ≤ 200 := by
  have hG := (hI.2.2.2.2.2.2.2.2.2.1 i hi).2
  by_cases h0 : i = 0
  · subst h0
    rw [mst_0]
    have : min (d 50) (sup d) ≤ d 50 := Nat.min_le_left _ _
    have h50 : d (50 + 0) = d 50 := rfl
    omega
  · rw [mst_fix hI.1 a (by omega) hi]
    have := Nat.min_le_left (d (50 + i)) (psd (d (60 + d (40 + i))) (mst d a (d (40 + i))) - (FP d a (d (40 + i)) - FF d a i))
    omega
theorem C_mostFor {a : Nat → Nat} {u : Nat} {Q : Int32 → Mem → Prop} (hI : Inv T d) (hv : RepX τ j d) (hu : u < d 2) (ha : Arr τ (4, 1, 0) (d 2) a) (hF : Arr τ (15, 0, 0) (d 1) (FF d a)) (hFP : Arr τ (15, 1, 0) (d 1) (FP d a)) (hs : τ (3, 0, 0) 5 = nI (sup d)) (hO : Ok d a)
    (hQ : ∀ τ' : Mem, (∀ o : Oid, o ≠ (15, 2, 0) → τ' o = τ o) → Q (nI (mx d a u)) τ') : J_X1_mostFor j (nI u) τ Q := by
  obtain ⟨hT, hN, hn, h3, h4, h0, hTT, hA, hS, hG, hU, hR⟩ := id hI
  have hsup : sup d ≤ 200 := hS _ (hr_lt d)
  have hG0 := (hG 0 hT.1).2
  unfold J_X1_mostFor
  rw [hs, hv.ga hT.1, nI_min (by omega) (by omega)]
  rintro _ rfl
  refine lpMf 1 (d 1) rfl hT.1 (by omega) (fun k τ' => (∀ o : Oid, o ≠ (15, 2, 0) → τ' o = τ o) ∧ Arr τ' (15, 2, 0) k (mst d a)) ⟨fun o h => mup_ne _ _ _ h, fun i hi => ?_⟩ (fun k τ2 I μ hk0 hk hP next => ?_)
  · have : i = 0 := by omega
    subst this
    rw [mup_same, mst_0]
  obtain ⟨hf, hm⟩ := hP
  have hv2 : RepX τ2 j d := hv.row (fun o h1 h2 _ => hf o (fun z => by rw [z] at h2; exact absurd h2 (by decide)))
  have e1 : τ2 (15, 1, 0) = τ (15, 1, 0) := hf _ (by decide)
  have e0 : τ2 (15, 0, 0) = τ (15, 0, 0) := hf _ (by decide)
  have e4 : τ2 (4, 1, 0) = τ (4, 1, 0) := hf _ (by decide)
  rw [hv2.nd]
  refine br_le (by omega) (by omega) (fun hle => ?_) (fun hlt => ?_)
  · have hkk : k = d 1 := by omega
    subst hkk
    have hat := hT.2.2.2.2 u hu
    rw [nI_clamp (by omega), hv2.u0 hu]
    refine ⟨vp_in_nI (by omega) (by decide), ?_⟩
    rintro _ rfl
    rw [nI_clamp (by omega), hm _ hat]
    refine ⟨vp_in_nI (by omega) (by decide), vp_in_nI (by omega) (by decide), ?_⟩
    refine C_passedOf hI hv2 hat (mst_le hI hat) ⟨vp_in_nI (by omega) (by decide), vp_in_nI (by omega) (by decide), ?_⟩
    have g1 := FP_user (d := d) a hu
    have g2 := FP_mst hT hO.1 hat
    rw [e1, e4, hFP _ hat, ha u hu, pk_sub g1, pk_sub (by omega)]
    exact hQ τ2 hf
  · have hpk := hT.2.2.1 k (by omega) hlt
    have hGk := (hG k hlt).2
    rw [nI_clamp (by omega), hv2.pa hlt]
    refine ⟨vp_in_nI (by omega) (by decide), ?_⟩
    rintro _ rfl
    rw [nI_clamp (by omega), hm _ hpk]
    refine ⟨vp_in_nI (by omega) (by decide), vp_in_nI (by omega) (by decide), ?_⟩
    refine C_passedOf hI hv2 (by omega) (mst_le hI (by omega)) ⟨vp_in_nI (by omega) (by decide), vp_in_nI (by omega) (by decide), ?_⟩
    have g1 := FF_part a (d := d) (c := k) (by omega) hlt
    have g2 := FP_mst hT hO.1 (i := d (40 + k)) (by omega)
    rw [e1, e0, hFP _ (by omega), hF k hlt, pk_sub g1, pk_sub (by omega)]
    rintro _ rfl
    refine ⟨vp_in_nI (by omega) (by decide), vp_in_nI (by omega) (by decide), ?_⟩
    have g3 := psd_le (d (60 + d (40 + k))) (mst d a (d (40 + k)))
    have g4 := mst_le (a := a) hI (i := d (40 + k)) (by omega)
    rw [hv2.ga hlt, nI_min (by omega) (by omega), ← mst_fix hT a (by omega) hlt]
    rintro _ rfl _ rfl
    rw [nI_1]
    refine next hlt _ ⟨fun o h => ?_, hm.push⟩
    rw [mup_ne _ _ _ h]
    exact hf o h
/-- what the flow's objects hold: asks, amounts, inflows, what is passed on, the supply -/
def FlowX (τ : Mem) (d : Dst) (a : Nat → Nat) : Prop := Arr τ (4, 0, 0) (d 2) (ask d) ∧ Arr τ (4, 1, 0) (d 2) a ∧ Arr τ (15, 0, 0) (d 1) (FF d a) ∧ Arr τ (15, 1, 0) (d 1) (FP d a) ∧ τ (3, 0, 0) 5 = nI (sup d)
theorem C_serve {a : Nat → Nat} {u : Nat} {Q : Mem → Prop} (hI : Inv T d) (hv : RepX τ j d) (hu : u < d 2) (hF : FlowX τ d a) (hO : Ok d a)
    (hQ : ∀ τ' : Mem, (∀ o : Oid, o.1 ≠ 4 → o.1 ≠ 15 → τ' o = τ o) → FlowX τ' d (srv d a u) → Q τ') : J_X1_serve j (nI u) τ Q := by
  obtain ⟨hT, hN, hn, h3, h4, h0, hTT, hA, hS, hG, hU, hR⟩ := id hI
  obtain ⟨f1, f2, f3, f4, f5⟩ := hF
  have hask : ∀ v, v < d 2 → ask d v ≤ 560 := fun v hv => ask_le (hU v hv)
  have hau := hO.2 u hu
  have hak := hask u hu
  have hat := hT.2.2.2.2 u hu
  have hmx : mx d a u ≤ 200 := by
    have g3 := psd_le (d (60 + d (70 + u))) (mst d a (d (70 + u)))
    have g4 := mst_le (a := a) hI hat
    unfold mx
    omega
  unfold J_X1_serve
  refine ⟨vp_in_nI (by omega) (by decide), ?_⟩
  refine C_mostFor hI hv hu f2 f3 f4 f5 hO (fun τ2 hf2 => ?_)
  rw [nI_clamp (by omega), f1 u hu, nI_min (by omega) (by omega)]
  rintro _ rfl
  refine ⟨vp_in_nI (by omega) (by decide), ?_⟩
  have e4 : τ2 (4, 1, 0) = τ (4, 1, 0) := hf2 _ (by decide)
  rw [e4, f2 u hu]
  have hv2 : RepX τ2 j d := hv.row (fun o h1 h2 _ => hf2 o (fun z => by rw [z] at h2; exact absurd h2 (by decide)))
  have f1' : Arr τ2 (4, 0, 0) (d 2) (ask d) := f1.row (hf2 _ (by decide))
  have f2' : Arr τ2 (4, 1, 0) (d 2) a := f2.row (hf2 _ (by decide))
  have f5' : τ2 (3, 0, 0) 5 = nI (sup d) := by rw [hf2 _ (by decide)]; exact f5
  refine br_le (by omega) (by omega) (fun h => ?_) (fun h => ?_)
  · have e : srv d a u = a := by
      unfold srv
      rw [show max (a u) (min (ask d u) (mx d a u)) = a u by omega, au_id]
    refine hQ τ2 (fun o g1 g2 => hf2 o (fun z => g2 (by rw [z]))) ?_
    rw [e]
    exact ⟨f1', f2', f3.row (hf2 _ (by decide)), f4.row (hf2 _ (by decide)), f5'⟩
  · have e : srv d a u = au a u (min (ask d u) (mx d a u)) := by
      unfold srv
      rw [show max (a u) (min (ask d u) (mx d a u)) = min (ask d u) (mx d a u) by omega]
    have hok := srv_ok hT hO hu
    refine ⟨vp_in_nI (by omega) (by decide), ?_⟩
    rintro _ rfl
    have hf7 : ∀ o : Oid, o.1 ≠ 4 → o.1 ≠ 15 → mup τ2 (4, 1, 0) u (nI (min (ask d u) (mx d a u))) o = τ o := fun o g1 g2 => by
      rw [mup_ne _ _ _ (fun z => g1 (by rw [z]))]
      exact hf2 o (fun z => g2 (by rw [z]))
    have ha7 : Arr (mup τ2 (4, 1, 0) u (nI (min (ask d u) (mx d a u)))) (4, 1, 0) (d 2) (srv d a u) := by
      rw [e]
      exact f2'.set _
    refine C_spread hI (hv.row (fun o h1 h2 _ => hf7 o (by omega) (by omega))) ha7 (fun v hv => Nat.le_trans (hok.2 v hv) (hask v hv)) (fun τ8 hf8 g1 g2 => ?_)
    refine hQ τ8 (fun o h1 h2 => (hf8 o h2).trans (hf7 o h1 h2)) ⟨?_, ha7.row (hf8 _ (by decide)), g1, g2, ?_⟩
    · refine f1'.row ?_
      rw [hf8 _ (by decide), mup_ne _ _ _ (by decide)]
    · rw [hf8 _ (by decide), mup_ne _ _ _ (by decide)]
      exact f5'
theorem C_hasUser {x : Int32} {Q : Int32 → Mem → Prop} (hI : Inv T d) (hv : RepX τ j d) (h1 : (∃ u, u < d 2 ∧ x = nI u) → Q 1 τ) (h0 : (¬ ∃ u, u < d 2 ∧ x = nI u) → Q 0 τ) : J_X2_hasUser j x τ Q := by
  have hn := hI.2.2.1
  unfold J_X2_hasUser
  rw [hv.nu]
  rcases pk_ix x (n := d 2) (by omega) with h | h | ⟨u, hu, rfl⟩
  · refine ⟨fun _ => h0 ?_, fun q => absurd h q⟩
    rintro ⟨u, hu, rfl⟩
    exact nI_pos (by omega) h
  · have hno : ¬ ∃ u, u < d 2 ∧ x = nI u := by
      rintro ⟨u, hu, rfl⟩
      rw [nI_leI (by omega) (by omega)] at h
      omega
    exact ⟨fun _ => h0 hno, fun _ => ⟨fun _ => h0 hno, fun q => absurd h q⟩⟩
  · refine ⟨fun q => absurd q (nI_pos (by omega)), fun _ => ⟨fun q => ?_, fun _ => h1 ⟨u, hu, rfl⟩⟩⟩
    rw [nI_leI (by omega) (by omega)] at q
    omega
/-- the class's distribution of an hour -/
theorem C_distribute {Q : Mem → Prop} (hI : Inv T d) (hv : RepX τ j d)
    (hQ : ∀ τ' : Mem, (∀ o : Oid, o.1 ≠ 3 → o.1 ≠ 4 → o.1 ≠ 15 → τ' o = τ o) → RepX τ' j d → FlowX τ' d (amt d) → Q τ') : J_X1_distribute j τ Q := by
  obtain ⟨hT, hN, hn, h3, h4, h0, hTT, hA, hS, hG, hU, hR⟩ := id hI
  have hask : ∀ v, v < d 2 → ask d v ≤ 560 := fun v hv => ask_le (hU v hv)
  have b80 : ∀ τ' : Mem, (∀ o : Oid, o.1 ≠ 3 → o.1 ≠ 4 → o.1 ≠ 15 → τ' o = τ o) → FlowX τ' d (am1 d) → J_X1_distribute_b80 j (turnC d) τ' Q := by
    intro τ1 hf1 hF1
    unfold J_X1_distribute_b80
    refine lpM (d 2) (by omega) (fun r τ' => (∀ o : Oid, o.1 ≠ 3 → o.1 ≠ 4 → o.1 ≠ 15 → τ' o = τ o) ∧ FlowX τ' d (ams d r)) ⟨hf1, hF1⟩ (fun r τ7 I μ hr hP next => ?_)
    obtain ⟨hf, hF⟩ := hP
    have hv7 := hv.fl hf
    rw [hv7.nu]
    refine br_le (by omega) (by omega) (fun hle => ?_) (fun hlt => ?_)
    · have hrr : r = d 2 := by omega
      subst hrr
      exact hQ τ7 hf hv7 hF
    · have hu := (hR r hlt).1
      rw [nI_clamp (by omega), hv7.rk hlt]
      refine ⟨vp_in_nI (by omega) (by decide), ?_⟩
      rintro _ rfl
      refine ⟨fun q => ?_, fun q => ?_⟩
      · rintro _ rfl
        rw [nI_1]
        refine next hlt _ ⟨hf, ?_⟩
        have e : ams d (r + 1) = ams d r := if_pos ((turnC_eq hI hu).mp q)
        rw [e]
        exact hF
      · refine C_serve hI hv7 hu hF (ams_ok hT hR (by omega)) (fun τ8 hf8 hF8 => ?_)
        rintro _ rfl
        rw [nI_1]
        refine next hlt _ ⟨fun o g1 g2 g3 => (hf8 o g2 g3).trans (hf o g1 g2 g3), ?_⟩
        have e : ams d (r + 1) = srv d (ams d r) (rkd d r) := if_neg (fun z => q ((turnC_eq hI hu).mpr z))
        rw [e]
        exact hF8
  have b61 : ∀ τ' : Mem, (∀ o : Oid, o.1 ≠ 3 → o.1 ≠ 4 → o.1 ≠ 15 → τ' o = τ o) → Arr τ' (4, 0, 0) (d 2) (ask d) → Arr τ' (4, 1, 0) (d 2) (am0 d) → τ' (3, 0, 0) 5 = nI (sup d) → J_X1_distribute_b61 j (turnC d) τ' Q := by
    intro τ1 hf1 hk1 ha1 hs1
    have hv1 := hv.fl hf1
    have hok := am0_ok hT
    unfold J_X1_distribute_b61
    refine C_spread hI hv1 ha1 (fun v hv => Nat.le_trans (hok.2 v hv) (hask v hv)) (fun τ7 hf7 g1 g2 => ?_)
    have hff7 : ∀ o : Oid, o.1 ≠ 3 → o.1 ≠ 4 → o.1 ≠ 15 → τ7 o = τ o := fun o q1 q2 q3 => (hf7 o q3).trans (hf1 o q1 q2 q3)
    have hF7 : FlowX τ7 d (am0 d) := ⟨hk1.row (hf7 _ (by decide)), ha1.row (hf7 _ (by decide)), g1, g2, by rw [hf7 _ (by decide)]; exact hs1⟩
    refine C_hasUser hI (hv.fl hff7) (fun hx => ?_) (fun hx => ?_)
    · obtain ⟨u, hu, he⟩ := hx
      have hut := (turnC_eq hI hu).mp he.symm
      refine ⟨fun q => absurd q (by decide), fun _ => ?_⟩
      rw [he]
      have e1 : am1 d = srv d (am0 d) u := by unfold am1; rw [← hut, if_pos hu]
      refine C_serve hI (hv.fl hff7) hu hF7 hok (fun τ8 hf8 hF8 => ?_)
      rw [← he]
      exact b80 τ8 (fun o q1 q2 q3 => (hf8 o q2 q3).trans (hff7 o q1 q2 q3)) (by rw [e1]; exact hF8)
    · refine ⟨fun _ => b80 τ7 hff7 ?_, fun q => absurd rfl q⟩
      have e1 : am1 d = am0 d := by
        unfold am1
        refine if_neg (fun z => hx ⟨tnow d, z, ?_⟩)
        unfold turnC
        rw [if_neg (by omega)]
      rw [e1]
      exact hF7
  unfold J_X1_distribute
  refine C_supplyNow hI hv ?_
  rintro _ rfl
  have hf2 : ∀ o : Oid, o.1 ≠ 3 → o.1 ≠ 4 → o.1 ≠ 15 → mup τ (3, 0, 0) 5 (nI (sup d)) o = τ o := fun o q1 _ _ => mup_ne _ _ _ (fun z => q1 (by rw [z]))
  refine C_userInTurn hI (hv.fl hf2) ?_
  refine lpM (d 2) (by omega) (fun m τ' => (∀ o : Oid, o.1 ≠ 3 → o.1 ≠ 4 → o.1 ≠ 15 → τ' o = τ o) ∧ τ' (3, 0, 0) 5 = nI (sup d) ∧ Arr τ' (4, 0, 0) m (ask d) ∧ Arr τ' (4, 1, 0) m (fun _ => 0)) ⟨hf2, mup_same _ _ _ _, fun i hi => absurd hi (Nat.not_lt_zero _), fun i hi => absurd hi (Nat.not_lt_zero _)⟩ (fun m τ3 I μ hm hP next => ?_)
  obtain ⟨hf3, hs3, hk3, ha3⟩ := hP
  have hv3 := hv.fl hf3
  rw [hv3.nu, hv3.rl, fa_lit 2]
  refine br_le (by omega) (by omega) (fun hle => ?_) (fun hlt => ?_)
  · have hmm : m = d 2 := by omega
    subst hmm
    refine br_ne (by omega) (by omega) (fun h => ?_) (fun h => ?_)
    · have e : am0 d = shr d (kmx d) := if_pos h
      refine C_giveGreatestShares hI hv3 hk3 hs3 (fun τ4 hf4 ha4 => ?_)
      refine b61 τ4 (fun o q1 q2 q3 => (hf4 o (fun z => q2 (by rw [z])) q3).trans (hf3 o q1 q2 q3)) (hk3.row (hf4 _ (by decide) (by decide))) (by rw [e]; exact ha4) ?_
      rw [hf4 _ (by decide) (by decide)]
      exact hs3
    · have e : am0 d = fun _ => 0 := if_neg h
      exact b61 τ3 hf3 hk3 (by rw [e]; exact ha3) hs3
  · refine C_unitsAsked hI hv3 hlt ⟨vp_in_nI (by omega) (by decide), ?_⟩
    rw [nI_clamp (by omega), fa_lit 0]
    rintro _ rfl
    refine ⟨vp_in_nI (by omega) (by decide), ?_⟩
    rintro _ rfl _ rfl
    rw [nI_1]
    refine next hlt _ ⟨fun o q1 q2 q3 => ?_, ?_, ?_, ?_⟩
    · rw [mup_ne _ _ _ (fun z => q2 (by rw [z])), mup_ne _ _ _ (fun z => q2 (by rw [z]))]
      exact hf3 o q1 q2 q3
    · rw [mup_ne _ _ _ (by decide), mup_ne _ _ _ (by decide)]
      exact hs3
    · exact (hk3.push).row (mup_ne _ _ _ (by decide))
    · refine Arr.push (f := fun _ => 0) (ha3.row (mup_ne _ _ _ (by decide)))
end CD
