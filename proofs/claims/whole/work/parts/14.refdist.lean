/-! PART 14: the reference's distribution -/
theorem R_isPossible {T : Nat} {d : Dst} {τ : Mem} {a : Nat → Nat} {Q : Int32 → Mem → Prop} (hI : Inv T d) (hv : RepM τ d) (ha : Arr τ (7, 0, 0) (d 2) a) (hb : ∀ u, u < d 2 → a u ≤ 560)
    (hQ : ∀ (r : Int32) (τ' : Mem), (∀ o : Oid, o.1 ≠ 8 → o.1 ≠ 9 → τ' o = τ o) → Arr τ' (8, 0, 0) (d 1) (FF d a) → Arr τ' (9, 0, 0) (d 1) (FP d a) → (r = 1 ∧ Poss d a ∨ r = 0 ∧ ¬ Poss d a) → Q r τ') : J_X6_isPossible τ Q := by
  obtain ⟨hT, hN, hn, h3, h4, h0, hTT, hA, hS, hG, hU, hR⟩ := id hI
  have hFP : ∀ k, k < d 1 → FP d a k ≤ 3440640 := fun k hk => FP_le hT hN hn hb hk
  have hFF : ∀ k, k < d 1 → FF d a k ≤ 6881280 := fun k hk => FF_le hT hN hn hb hk
  unfold J_X6_isPossible
  refine lpM (d 1) (by omega) (fun k τ' => (∀ o : Oid, o.1 ≠ 8 → o.1 ≠ 9 → τ' o = τ o) ∧ Arr τ' (9, 0, 0) k (fun _ => 0)) ⟨fun _ _ _ => rfl, fun i hi => absurd hi (Nat.not_lt_zero _)⟩ (fun k τ1 I μ hk hP next => ?_)
  obtain ⟨hf, hp⟩ := hP
  have hv1 : RepM τ1 d := hv.row (hf _ (by decide) (by decide))
  rw [hv1 1 (by omega)]
  refine br_le (by omega) (by omega) (fun hle => ?_) (fun hlt => ?_)
  · have hkk : k = d 1 := by omega
    subst hkk
    refine lpM (d 2) (by omega) (fun m τ' => (∀ o : Oid, o.1 ≠ 8 → o.1 ≠ 9 → τ' o = τ o) ∧ Arr τ' (9, 0, 0) (d 1) (fun i => pu d a i m)) ⟨hf, hp⟩ (fun m τ3 I3 μ3 hm hP3 next3 => ?_)
    obtain ⟨hf3, hp3⟩ := hP3
    have hv3 : RepM τ3 d := hv.row (hf3 _ (by decide) (by decide))
    rw [hv3 2 (by omega)]
    refine br_le (by omega) (by omega) (fun hle2 => ?_) (fun hlt2 => ?_)
    · have hmm : m = d 2 := by omega
      subst hmm
      rintro _ rfl
      refine lpDA (d 1) (by rw [hv3 1 (by omega)]; rfl) (by omega) (fun k y τ' => (∀ o : Oid, o.1 ≠ 8 → o.1 ≠ 9 → τ' o = τ o) ∧ Arr τ' (9, 0, 0) (d 1) (gk d a k) ∧ (∀ i, k ≤ i → i < d 1 → τ' (8, 0, 0) i = nI (FF d a i)) ∧ (y = 1 ∧ (∀ i, k ≤ i → i < d 1 → FF d a i ≤ d (50 + i)) ∨ y = 0 ∧ ¬ ∀ i, k ≤ i → i < d 1 → FF d a i ≤ d (50 + i))) ?_ ?_ ?_
      · exact ⟨hf3, hp3.congr (fun i _ => (gk_top a i).symm), fun i h1 h2 => absurd h1 (by omega), Or.inl ⟨rfl, fun i h1 h2 => absurd h1 (by omega)⟩⟩
      · intro y τ6 I6 μ6 hP6
        obtain ⟨hf6, hp6, hq6, hy⟩ := hP6
        have hv6 : RepM τ6 d := hv.row (hf6 _ (by decide) (by decide))
        have hA8 : Arr τ6 (8, 0, 0) (d 1) (FF d a) := fun i hi => hq6 i (Nat.zero_le _) hi
        have hA9 : Arr τ6 (9, 0, 0) (d 1) (FP d a) := hp6.congr (fun i _ => gk_zero hT a i)
        refine ⟨fun _ => ⟨?_, ?_⟩, fun h => absurd (by decide) h⟩
        · rintro rfl
          rcases hy with ⟨h1, -⟩ | ⟨-, h2⟩
          · exact absurd h1 (by decide)
          · exact hQ 0 τ6 hf6 hA8 hA9 (Or.inr ⟨rfl, fun hp => h2 (fun i _ hi => hp.1 i hi)⟩)
        · intro hy0
          rcases hy with ⟨-, h2⟩ | ⟨h1, -⟩
          · refine R_hour hI hv6 ?_
            have hh := hr_lt d
            have hs := hS (hr d) hh
            have hF0 := hFF 0 hT.1
            simp (discharger := omega) only [fa_lit, nI_add, vin, nI_clamp, hv6 (12 + hr d), true_and, hA8 0 hT.1]
            refine br_lt (by omega) (by omega) (fun h => ?_) (fun h => ?_)
            · exact hQ 0 τ6 hf6 hA8 hA9 (Or.inr ⟨rfl, fun hp => by have := hp.2; unfold sup at this; omega⟩)
            · exact hQ 1 τ6 hf6 hA8 hA9 (Or.inl ⟨rfl, fun i hi => h2 i (Nat.zero_le _) hi, h⟩)
          · exact absurd h1 hy0
      · intro j y τ6 I6 μ6 hj hP6 next6
        obtain ⟨hf6, hp6, hq6, hy⟩ := hP6
        have hv6 : RepM τ6 d := hv.row (hf6 _ (by decide) (by decide))
        have hl := hT.2.2.2.1 j hj
        have hFPj := hFP j hj
        have hFFj := hFF j hj
        have hGj := (hG j hj).2
        refine ⟨fun h => absurd h (nI_pos (by omega)), fun _ => ?_⟩
        simp (discharger := omega) only [fa_lit, nI_add, vin, nI_clamp, hv6 (60 + j), true_and]
        rintro _ rfl
        rw [pk_sub (by omega)]
        refine ⟨fun q => absurd ((nI_eq (by omega) (by decide)).mp q) (by omega), ?_⟩
        rintro _ rfl
        have e8 : ((nI 100 * τ6 (9, 0, 0) j + nI (100 - d (60 + j)) - nI 1) / nI (100 - d (60 + j)) : Int32) = nI (FF d a j) := by
          rw [hp6 j hj, gk_own hT a hj, pk_mul, nI_add, pk_sub (by omega), pk_div (by omega) (by omega) (by omega), FF_fix a hT hj]
          rfl
        rw [e8]
        -- the state behind the gate's question
        have key : ∀ t0 : Int32, (t0 = 1 ∧ (∀ i, j ≤ i → i < d 1 → FF d a i ≤ d (50 + i)) ∨ t0 = 0 ∧ ¬ ∀ i, j ≤ i → i < d 1 → FF d a i ≤ d (50 + i)) → J_X6_isPossible_b142 (fun z0 z1 => I z0 z1 ∧ μ z0 z1 < μ (nI (d 1)) τ1) (fun z0 z1 => I3 z0 z1 ∧ μ3 z0 z1 < μ3 (nI (d 2)) τ3) (fun z0 z1 z2 => I6 z0 z1 z2 ∧ μ6 z0 z1 z2 < μ6 y (nI j) τ6) (nI j) t0 (mup τ6 (8, 0, 0) j (nI (FF d a j))) Q := by
          intro t0 ht0
          have hf7 : ∀ o : Oid, o.1 ≠ 8 → o.1 ≠ 9 → mup τ6 (8, 0, 0) j (nI (FF d a j)) o = τ o := fun o h1 h2 => by
            rw [mup_ne _ _ _ (fun z => h1 (by rw [z]))]
            exact hf6 o h1 h2
          have hv7 : RepM (mup τ6 (8, 0, 0) j (nI (FF d a j))) d := hv.row (hf7 _ (by decide) (by decide))
          have hq7 : ∀ i, j ≤ i → i < d 1 → mup τ6 (8, 0, 0) j (nI (FF d a j)) (8, 0, 0) i = nI (FF d a i) := by
            intro i h1 h2
            rw [mup_at]
            by_cases hij : i = j
            · rw [if_pos hij, hij]
            · rw [if_neg hij]
              exact hq6 i (by omega) h2
          unfold J_X6_isPossible_b142
          rw [fa_lit 0]
          refine br_le (by omega) (by omega) (fun hj0 => ?_) (fun hj0 => ?_)
          · rintro _ rfl
            refine next6 t0 _ ⟨hf7, ?_, hq7, ht0⟩
            have hj00 : j = 0 := by omega
            intro i hi
            rw [mup_ne _ _ _ (by decide), hp6 i hi, gk_step a hj]
            rw [if_neg (by omega)]
            rfl
          · have hpj := hT.2.2.1 j hj0 hj
            have e9 : mup τ6 (8, 0, 0) j (nI (FF d a j)) (9, 0, 0) (d (40 + j)) = nI (gk d a (j + 1) (d (40 + j))) := by
              rw [mup_ne _ _ _ (by decide)]
              exact hp6 _ (by omega)
            simp (discharger := omega) only [fa_lit, nI_add, vin, nI_clamp, hv7 (40 + j), true_and, mup_same, e9]
            rintro _ rfl _ rfl
            refine next6 t0 _ ⟨fun o h1 h2 => ?_, ?_, ?_, ht0⟩
            · rw [mup_ne _ _ _ (fun z => h2 (by rw [z]))]
              exact hf7 o h1 h2
            · intro i hi
              rw [mup_at, gk_step a hj]
              by_cases hq : i = d (40 + j)
              · rw [if_pos hq, if_pos ⟨hj0, hq.symm⟩, hq]
              · rw [if_neg hq, if_neg (fun z => hq z.2.symm), mup_ne _ _ _ (by decide)]
                exact hp6 i hi
            · intro i h1 h2
              rw [mup_ne _ _ _ (by decide)]
              exact hq7 i h1 h2
        have hv8 : mup τ6 (8, 0, 0) j (nI (FF d a j)) (1, 0, 0) (50 + j) = nI (d (50 + j)) := by
          rw [mup_ne _ _ _ (by decide)]
          exact hv6 _ (by omega)
        refine ⟨?_, fun hy0 => ?_⟩
        · intro hy0
          refine key 0 (Or.inr ⟨rfl, fun q => ?_⟩)
          rcases hy with ⟨h1, -⟩ | ⟨-, h2⟩
          · rw [h1] at hy0
            exact absurd hy0 (by decide)
          · exact h2 (fun i h1 h2 => q i (by omega) h2)
        · simp (discharger := omega) only [mup_same, hv8]
          refine br_lt (by omega) (by omega) (fun h => ?_) (fun h => ?_)
          · refine key 0 (Or.inr ⟨rfl, fun q => ?_⟩)
            have := q j (Nat.le_refl _) hj
            omega
          · rcases hy with ⟨h1, h2⟩ | ⟨h1, -⟩
            · refine key 1 (Or.inl ⟨rfl, fun i h3 h4 => ?_⟩)
              by_cases hij : i = j
              · rw [hij]; exact h
              · exact h2 i (by omega) h4
            · exact absurd h1 hy0
    · have hat := hT.2.2.2.2 m hlt2
      have e7 : τ3 (7, 0, 0) m = nI (a m) := by rw [hf3 _ (by decide) (by decide)]; exact ha m hlt2
      simp (discharger := omega) only [fa_lit, nI_add, vin, nI_clamp, hv3 (70 + m), true_and, e7, hp3 (d (70 + m)) hat]
      rintro _ rfl _ rfl
      refine next3 hlt2 _ ⟨fun o h1 h2 => ?_, fun i hi => ?_⟩
      · rw [mup_ne _ _ _ (fun z => h2 (by rw [z]))]
        exact hf3 o h1 h2
      · rw [mup_at]
        simp only [pu]
        by_cases hq : i = d (70 + m)
        · rw [if_pos hq, if_pos hq.symm, hq]
        · rw [if_neg hq, if_neg (fun z => hq z.symm)]
          exact hp3 i hi
  · simp (discharger := omega) only [fa_lit, nI_add, vin, nI_clamp, true_and]
    rintro _ rfl _ rfl
    refine next hlt _ ⟨fun o h1 h2 => ?_, hp.push⟩
    rw [mup_ne _ _ _ (fun z => h2 (by rw [z]))]
    exact hf o h1 h2
