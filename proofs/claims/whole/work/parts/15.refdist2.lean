/-! PART 15: the reference's distribution, serving and ranks -/
theorem au_au (a : Nat → Nat) (u x y : Nat) : au (au a u x) u y = au a u y := by
  funext v
  unfold au
  split <;> rfl
theorem au_id (a : Nat → Nat) (u : Nat) : au a u (a u) = a := by
  funext v
  unfold au
  split
  · rename_i h; rw [h]
  · rfl
theorem R_serves {T : Nat} {d : Dst} {τ : Mem} {a : Nat → Nat} {u : Nat} {Q : Mem → Prop} (hI : Inv T d) (hv : RepM τ d) (hu : u < d 2) (ha : Arr τ (7, 0, 0) (d 2) a) (hk : Arr τ (6, 0, 0) (d 2) (ask d)) (hO : Ok d a)
    (hQ : ∀ τ' : Mem, (∀ o : Oid, o.1 ≠ 7 → o.1 ≠ 8 → o.1 ≠ 9 → τ' o = τ o) → Arr τ' (7, 0, 0) (d 2) (srv d a u) → Q τ') : J_X6_serves (nI u) τ Q := by
  obtain ⟨hT, hN, hn, h3, h4, h0, hTT, hA, hS, hG, hU, hR⟩ := id hI
  have hask : ∀ v, v < d 2 → ask d v ≤ 560 := fun v hv => ask_le (hU v hv)
  have hau : ∀ v, v < d 2 → a v ≤ 560 := fun v hv => Nat.le_trans (hO.2 v hv) (hask v hv)
  have b1 := hask u hu
  have b2 := hau u hu
  have key : ∀ M : Nat, M = max (a u) (ask d u) → J_X6_serves_b32 (nI u) (nI u) (nI (a u)) (nI M) (nI u) τ Q := by
    intro M hM
    have hM5 : M ≤ 560 := by omega
    unfold J_X6_serves_b32
    simp (discharger := omega) only [vin, nI_clamp, true_and]
    rintro _ rfl
    refine ⟨fun τ' => ∃ x, (∀ o : Oid, o.1 ≠ 7 → o.1 ≠ 8 → o.1 ≠ 9 → τ' o = τ o) ∧ Arr τ' (7, 0, 0) (d 2) (au a u x) ∧ a u ≤ x ∧ x ≤ M ∧ ∀ y, x < y → y ≤ M → ¬ Poss d (au a u y), fun τ' => (τ' (7, 0, 0) u).toNatClampNeg, ⟨M, fun o h1 _ _ => mup_ne _ _ _ (fun z => h1 (by rw [z])), ha.set M, by omega, Nat.le_refl _, fun y h1 h2 => absurd h1 (by omega)⟩, ?_⟩
    rintro τ7 ⟨x, hf, hx, h1, h2, h3⟩
    have hv7 : RepM τ7 d := hv.row (hf _ (by decide) (by decide) (by decide))
    have ex : τ7 (7, 0, 0) u = nI x := by rw [hx u hu, au_self]
    rw [ex]
    have srv_eq : ∀ z : Nat, a u ≤ z → z ≤ M → (∀ y, z < y → y ≤ M → ¬ Poss d (au a u y)) → (z = a u ∨ Poss d (au a u z)) → au a u z = srv d a u := by
      intro z g1 g2 g3 g4
      unfold srv
      have hm := mx_ge hT hO.1 hu
      have e : z = max (a u) (min (ask d u) (mx d a u)) := by
        have up : z < M → mx d a u < z + 1 := by
          intro hz
          have := g3 (z + 1) (by omega) (by omega)
          rw [Poss_au hT hO.1 hu] at this
          omega
        rcases g4 with g4 | g4
        · rcases Nat.lt_or_ge z M with q | q
          · have := up q
            omega
          · omega
        · rw [Poss_au hT hO.1 hu] at g4
          rcases Nat.lt_or_ge z M with q | q
          · have := up q
            omega
          · omega
      rw [← e]
    refine br_le (by omega) (by omega) (fun hle => ?_) (fun hlt => ?_)
    · have : x = a u := by omega
      exact hQ τ7 hf (by rw [← srv_eq x h1 h2 h3 (Or.inl this)]; exact hx)
    · refine R_isPossible hI hv7 hx (fun v hv => ?_) (fun r τ8 hf8 hA8 hA9 hr => ?_)
      · unfold au
        split
        · omega
        · exact hau v hv
      · have hf8' : ∀ o : Oid, o.1 ≠ 7 → o.1 ≠ 8 → o.1 ≠ 9 → τ8 o = τ o := fun o g1 g2 g3 => (hf8 o g2 g3).trans (hf o g1 g2 g3)
        have hx8 : Arr τ8 (7, 0, 0) (d 2) (au a u x) := hx.row (hf8 _ (by decide) (by decide))
        rcases hr with ⟨rfl, hp⟩ | ⟨rfl, hp⟩
        · exact ⟨fun _ => hQ τ8 hf8' (by rw [← srv_eq x h1 h2 h3 (Or.inr hp)]; exact hx8), fun q => absurd q (by decide)⟩
        · refine ⟨fun q => absurd rfl q, fun _ => ?_⟩
          have ex8 : τ8 (7, 0, 0) u = nI x := by rw [hx8 u hu, au_self]
          rw [ex8, fa_lit 1, pk_sub (by omega)]
          rintro _ rfl
          refine ⟨⟨x - 1, fun o g1 g2 g3 => ?_, ?_, by omega, by omega, fun y g1 g2 => ?_⟩, ?_⟩
          · rw [mup_ne _ _ _ (fun z => g1 (by rw [z]))]
            exact hf8' o g1 g2 g3
          · have := hx8.set (k := u) (x - 1)
            rw [← au_au a u x (x - 1)]
            exact this
          · by_cases hq : y = x
            · rw [hq]; exact hp
            · exact h3 y (by omega) g2
          · show (mup τ8 (7, 0, 0) u (nI (x - 1)) (7, 0, 0) u).toNatClampNeg < (τ7 (7, 0, 0) u).toNatClampNeg
            rw [mup_same, ex, nI_clamp (by omega), nI_clamp (by omega)]
            omega
  unfold J_X6_serves
  simp (discharger := omega) only [vin, nI_clamp, true_and, ha u hu, hk u hu]
  rintro _ rfl
  refine br_le (by omega) (by omega) (fun h => key _ (by omega)) (fun h => key _ (by omega))
theorem R_proportions {T : Nat} {d : Dst} {τ : Mem} {Q : Mem → Prop} (hI : Inv T d) (hv : RepM τ d) (hk : Arr τ (6, 0, 0) (d 2) (ask d))
    (hQ : ∀ τ' : Mem, (∀ o : Oid, o.1 ≠ 7 → o.1 ≠ 8 → o.1 ≠ 9 → τ' o = τ o) → Arr τ' (7, 0, 0) (d 2) (shr d (kmx d)) → Q τ') : J_X6_proportions τ Q := by
  obtain ⟨hT, hN, hn, h3, h4, h0, hTT, hA, hS, hG, hU, hR⟩ := id hI
  have hask : ∀ v, v < d 2 → ask d v ≤ 560 := fun v hv => ask_le (hU v hv)
  unfold J_X6_proportions
  refine ⟨fun x1 x2 τ' => (∀ o : Oid, o.1 ≠ 7 → o.1 ≠ 8 → o.1 ≠ 9 → τ' o = τ o) ∧ ((x2 = 0 ∧ ∃ k, k ≤ 100 ∧ x1 = nI k ∧ ∀ q, q ≤ 100 → k < q → ¬ Poss d (shr d q)) ∨ (x2 = 1 ∧ Arr τ' (7, 0, 0) (d 2) (shr d (kmx d)))), fun x1 x2 _ => if x2 = 0 then x1.toNatClampNeg + 1 else 0, ⟨fun _ _ _ _ => rfl, Or.inl ⟨rfl, 100, Nat.le_refl _, rfl, fun q h1 h2 => absurd h1 (by omega)⟩⟩, ?_⟩
  rintro x1 x2 τ1 ⟨hf, hx⟩
  have hv1 : RepM τ1 d := hv.row (hf _ (by decide) (by decide) (by decide))
  have hk1 : Arr τ1 (6, 0, 0) (d 2) (ask d) := hk.row (hf _ (by decide) (by decide) (by decide))
  rcases hx with ⟨rfl, k, hk100, rfl, hmax⟩ | ⟨rfl, hs⟩
  · refine ⟨fun q => absurd rfl q, fun _ => ?_⟩
    refine lpM (d 2) (by omega) (fun m τ' => (∀ o : Oid, o.1 ≠ 7 → o.1 ≠ 8 → o.1 ≠ 9 → τ' o = τ o) ∧ Arr τ' (7, 0, 0) m (shr d k)) ⟨hf, fun i hi => absurd hi (Nat.not_lt_zero _)⟩ (fun m τ3 I3 μ3 hm hP3 next3 => ?_)
    obtain ⟨hf3, hp3⟩ := hP3
    have hv3 : RepM τ3 d := hv.row (hf3 _ (by decide) (by decide) (by decide))
    have hk3 : Arr τ3 (6, 0, 0) (d 2) (ask d) := hk.row (hf3 _ (by decide) (by decide) (by decide))
    rw [hv3 2 (by omega)]
    refine br_le (by omega) (by omega) (fun hle => ?_) (fun hlt => ?_)
    · have hmm : m = d 2 := by omega
      subst hmm
      refine R_isPossible hI hv3 hp3 (fun v hv => Nat.le_trans (shr_le hk100 v) (hask v hv)) (fun r τ5 hf5 hA8 hA9 hr => ?_)
      have hf5' : ∀ o : Oid, o.1 ≠ 7 → o.1 ≠ 8 → o.1 ≠ 9 → τ5 o = τ o := fun o g1 g2 g3 => (hf5 o g2 g3).trans (hf3 o g1 g2 g3)
      rintro _ rfl
      rcases hr with ⟨rfl, hp⟩ | ⟨rfl, hp⟩
      · refine ⟨⟨hf5', Or.inr ⟨rfl, ?_⟩⟩, ?_⟩
        · rw [kmx_of hT hk100 hp hmax]
          exact hp3.row (hf5 _ (by decide) (by decide))
        · show (if (1 : Int32) = 0 then _ else 0) < (if (0 : Int32) = 0 then _ else 0)
          rw [if_neg (by decide), if_pos rfl]
          omega
      · have hk0 : 0 < k := by
          rcases Nat.eq_zero_or_pos k with q | q
          · rw [q] at hp
            exact absurd (Poss_shr_zero hT) hp
          · exact q
        obtain ⟨j, rfl⟩ : ∃ j, k = j + 1 := ⟨k - 1, by omega⟩
        rw [pk_m1]
        refine ⟨⟨hf5', Or.inl ⟨rfl, j, by omega, rfl, fun q g1 g2 => ?_⟩⟩, ?_⟩
        · by_cases hq : q = j + 1
          · rw [hq]; exact hp
          · exact hmax q g1 (by omega)
        · show (if (0 : Int32) = 0 then _ else 0) < (if (0 : Int32) = 0 then _ else 0)
          rw [if_pos rfl, if_pos rfl, nI_clamp (by omega), nI_clamp (by omega)]
          omega
    · have hal := hask m hlt
      have hmul : ask d m * k ≤ 560 * 100 := Nat.mul_le_mul hal hk100
      simp (discharger := omega) only [fa_lit, vin, nI_clamp, true_and, hk3 m hlt, pk_mul, nI_add]
      rw [pk_div (by omega) (by decide) (by decide)]
      rintro _ rfl _ rfl
      refine next3 hlt _ ⟨fun o g1 g2 g3 => ?_, hp3.push⟩
      rw [mup_ne _ _ _ (fun z => g1 (by rw [z]))]
      exact hf3 o g1 g2 g3
  · exact ⟨fun _ => hQ τ1 hf hs, fun q => absurd q (by decide)⟩
theorem R_isOlder {T : Nat} {d : Dst} {τ : Mem} {x y : Nat} {Q : Int32 → Mem → Prop} (hI : Inv T d) (hv : RepM τ d) (hx : x < d 2) (hy : y < d 2) (hQ : Q (if older d x y then 1 else 0) τ) : J_X6_isOlder (nI x) (nI y) τ Q := by
  obtain ⟨hT, hN, hn, h3, h4, h0, hTT, hA, hS, hG, hU, hR⟩ := id hI
  have b1 := (hU x hx).1
  have b2 := (hU y hy).1
  unfold J_X6_isOlder
  simp (discharger := omega) only [fa_lit, nI_add, vin, nI_clamp, hv (82 + x), hv (82 + y), true_and]
  refine br_lt (by omega) (by omega) (fun h => ?_) (fun h => ?_)
  · rw [if_pos (Or.inl h)] at hQ
    exact hQ
  · refine br_ne (by omega) (by omega) (fun h5 => ?_) (fun h5 => ?_)
    · refine br_le (by omega) (by omega) (fun h6 => ?_) (fun h6 => ?_)
      · rw [if_neg (by rintro (z | z) <;> omega)] at hQ
        exact hQ
      · rw [if_pos (Or.inr ⟨h5, h6⟩)] at hQ
        exact hQ
    · rw [if_neg (by rintro (z | z) <;> omega)] at hQ
      exact hQ
theorem R_ranked {T : Nat} {d : Dst} {τ : Mem} {x : Int32} {Q : Int32 → Mem → Prop} (hI : Inv T d) (hv : RepM τ d) (hQ1 : ∀ u, u < d 2 → x = nI (cnt d u (d 2)) → Q (nI u) τ) (hQ2 : (∀ u, u < d 2 → x ≠ nI (cnt d u (d 2))) → Q (-101) τ) : J_X6_ranked x τ Q := by
  obtain ⟨hT, hN, hn, h3, h4, h0, hTT, hA, hS, hG, hU, hR⟩ := id hI
  unfold J_X6_ranked
  refine lpM (d 2) (by omega) (fun k τ' => τ' = τ ∧ ∀ u, u < k → x ≠ nI (cnt d u (d 2))) ⟨rfl, fun u hu => absurd hu (Nat.not_lt_zero _)⟩ (fun k τ1 I μ hk hP next => ?_)
  obtain ⟨rfl, hno⟩ := hP
  rw [hv 2 (by omega)]
  refine br_le (by omega) (by omega) (fun hle => ?_) (fun hlt => ?_)
  · have hkk : k = d 2 := by omega
    subst hkk
    exact hQ2 hno
  · refine lpAM (d 2) (by omega) (fun m y τ' => τ' = τ1 ∧ y = nI (cnt d k m)) ⟨rfl, rfl⟩ (fun m y τ3 I3 μ3 hm hP3 next3 => ?_)
    obtain ⟨rfl, rfl⟩ := hP3
    rw [hv 2 (by omega)]
    have hc := cnt_le (d := d) k m
    refine br_le (by omega) (by omega) (fun hle2 => ?_) (fun hlt2 => ?_)
    · have hmm : m = d 2 := by omega
      subst hmm
      refine ⟨fun hne => ?_, fun he => ?_⟩
      · rintro _ rfl
        rw [nI_1]
        refine next hlt _ ⟨rfl, fun u hu => ?_⟩
        by_cases hq : u = k
        · rw [hq]; exact fun z => hne z.symm
        · exact hno u (by omega)
      · exact hQ1 k hlt he.symm
    · refine R_isOlder hI hv hlt2 hlt ?_
      by_cases ho : older d m k
      · rw [if_pos ho]
        refine ⟨fun q => absurd q (by decide), fun _ => ?_⟩
        rintro _ rfl _ rfl
        rw [nI_1 m]
        refine next3 hlt2 _ _ ⟨rfl, ?_⟩
        simp only [cnt]
        rw [if_pos ho]
        exact nI_1 _
      · rw [if_neg ho]
        refine ⟨fun _ => ?_, fun q => absurd rfl q⟩
        rintro _ rfl _ rfl
        rw [nI_1 m]
        refine next3 hlt2 _ _ ⟨rfl, ?_⟩
        simp only [cnt]
        rw [if_neg ho]
        exact nI_add _ 0
theorem R_rank {T : Nat} {d : Dst} {τ : Mem} {r : Nat} {Q : Int32 → Mem → Prop} (hI : Inv T d) (hv : RepM τ d) (hr : r < d 2) (hQ : Q (nI (rkd d r)) τ) : J_X6_ranked (nI r) τ Q := by
  obtain ⟨hT, hN, hn, h3, h4, h0, hTT, hA, hS, hG, hU, hR⟩ := id hI
  obtain ⟨h1, h2⟩ := hR r hr
  refine R_ranked hI hv (fun u hu he => ?_) (fun hno => ?_)
  · have hc := cnt_le (d := d) u (d 2)
    rw [nI_eq (by omega) (by omega)] at he
    rw [← rkd_of hu he.symm]
    exact hQ
  · exact absurd (by rw [h2]) (hno _ h1)
/-- the reference's distribution of an hour -/
theorem R_distributes {T : Nat} {d : Dst} {τ : Mem} {Q : Mem → Prop} (hI : Inv T d) (hv : RepM τ d)
    (hQ : ∀ τ' : Mem, (∀ o : Oid, o.1 ≠ 6 → o.1 ≠ 7 → o.1 ≠ 8 → o.1 ≠ 9 → τ' o = τ o) → Arr τ' (6, 0, 0) (d 2) (ask d) → Arr τ' (7, 0, 0) (d 2) (amt d) → Arr τ' (8, 0, 0) (d 1) (FF d (amt d)) → Arr τ' (9, 0, 0) (d 1) (FP d (amt d)) → Q τ') : J_X6_distributes τ Q := by
  obtain ⟨hT, hN, hn, h3, h4, h0, hTT, hA, hS, hG, hU, hR⟩ := id hI
  have hask : ∀ v, v < d 2 → ask d v ≤ 560 := fun v hv => ask_le (hU v hv)
  have b57 : ∀ τ' : Mem, (∀ o : Oid, o.1 ≠ 6 → o.1 ≠ 7 → o.1 ≠ 8 → o.1 ≠ 9 → τ' o = τ o) → Arr τ' (6, 0, 0) (d 2) (ask d) → Arr τ' (7, 0, 0) (d 2) (am1 d) → J_X6_distributes_b57 (turnR d) τ' Q := by
    intro τ1 hf1 hk1 ha1
    unfold J_X6_distributes_b57
    refine lpM (d 2) (by omega) (fun r τ' => (∀ o : Oid, o.1 ≠ 6 → o.1 ≠ 7 → o.1 ≠ 8 → o.1 ≠ 9 → τ' o = τ o) ∧ Arr τ' (6, 0, 0) (d 2) (ask d) ∧ Arr τ' (7, 0, 0) (d 2) (ams d r)) ⟨hf1, hk1, ha1⟩ (fun r τ7 I μ hr hP next => ?_)
    obtain ⟨hf, hk, ha⟩ := hP
    have hv7 : RepM τ7 d := hv.row (hf _ (by decide) (by decide) (by decide) (by decide))
    rw [hv7 2 (by omega)]
    refine br_le (by omega) (by omega) (fun hle => ?_) (fun hlt => ?_)
    · have hrr : r = d 2 := by omega
      subst hrr
      have hok := amt_ok hT hR
      refine R_isPossible hI hv7 ha (fun v hv => Nat.le_trans (hok.2 v hv) (hask v hv)) (fun r τ9 hf9 hA8 hA9 hr => ?_)
      exact hQ τ9 (fun o g1 g2 g3 g4 => (hf9 o g3 g4).trans (hf o g1 g2 g3 g4)) (hk.row (hf9 _ (by decide) (by decide))) (ha.row (hf9 _ (by decide) (by decide))) hA8 hA9
    · refine R_rank hI hv7 hlt ?_
      have hu := (hR r hlt).1
      have key : nI (rkd d r) = turnR d ↔ rkd d r = tnow d := by
        unfold turnR
        split
        · constructor
          · intro q
            have := congrArg Int32.toInt q
            rw [nI_toInt (by omega)] at this
            have h2 : (-1 : Int32).toInt = -1 := by decide
            rw [h2] at this
            omega
          · intro q; omega
        · rename_i h99
          have := (tnow_lt h99).2.2.1
          rw [nI_eq (by omega) (by omega)]
      refine ⟨fun q => ?_, fun q => ?_⟩
      · rintro _ rfl
        rw [nI_1]
        refine next hlt _ ⟨hf, hk, ?_⟩
        have e : ams d (r + 1) = ams d r := if_pos (key.mp q)
        rw [e]
        exact ha
      · refine R_serves hI hv7 hu ha hk (ams_ok hT hR (by omega)) (fun τ8 hf8 ha8 => ?_)
        rintro _ rfl
        rw [nI_1]
        refine next hlt _ ⟨fun o g1 g2 g3 g4 => (hf8 o g2 g3 g4).trans (hf o g1 g2 g3 g4), hk.row (hf8 _ (by decide) (by decide) (by decide)), ?_⟩
        have e : ams d (r + 1) = srv d (ams d r) (rkd d r) := if_neg (fun z => q (key.mpr z))
        rw [e]
        exact ha8
  have b48 : ∀ τ' : Mem, (∀ o : Oid, o.1 ≠ 6 → o.1 ≠ 7 → o.1 ≠ 8 → o.1 ≠ 9 → τ' o = τ o) → Arr τ' (6, 0, 0) (d 2) (ask d) → Arr τ' (7, 0, 0) (d 2) (am0 d) → J_X6_distributes_b48 (turnR d) τ' Q := by
    intro τ1 hf hk ha
    have hv1 : RepM τ1 d := hv.row (hf _ (by decide) (by decide) (by decide) (by decide))
    unfold J_X6_distributes_b48
    by_cases h99 : tnow d = 99
    · have e : turnR d = -1 := if_pos h99
      have e1 : am1 d = am0 d := if_neg (by omega)
      refine ⟨fun _ => b57 τ1 hf hk (by rw [e1]; exact ha), fun q => ?_⟩
      rw [e] at q
      exact absurd (by decide) q
    · have e : turnR d = nI (tnow d) := if_neg h99
      have hu := (tnow_lt h99).2.2.1
      have e1 : am1 d = srv d (am0 d) (tnow d) := if_pos hu
      refine ⟨fun q => ?_, fun _ => ?_⟩
      · rw [e] at q
        exact absurd q (nI_pos (by omega))
      · rw [e]
        refine R_serves hI hv1 hu ha hk (am0_ok hT) (fun τ8 hf8 ha8 => ?_)
        rw [← e]
        exact b57 τ8 (fun o g1 g2 g3 g4 => (hf8 o g2 g3 g4).trans (hf o g1 g2 g3 g4)) (hk.row (hf8 _ (by decide) (by decide) (by decide))) (by rw [e1]; exact ha8)
  unfold J_X6_distributes
  refine R_findAsked hI hv (fun τ1 hf1 hk1 => ?_)
  have hv1 : RepM τ1 d := hv.row (hf1 _ (by decide))
  refine R_turnNow hI hv1 ?_
  refine lpM (d 2) (by omega) (fun m τ' => (∀ o : Oid, o.1 ≠ 7 → τ' o = τ1 o) ∧ Arr τ' (7, 0, 0) m (fun _ => 0)) ⟨fun _ _ => rfl, fun i hi => absurd hi (Nat.not_lt_zero _)⟩ (fun m τ3 I μ hm hP next => ?_)
  obtain ⟨hf3, hp3⟩ := hP
  have hv3 : RepM τ3 d := hv1.row (hf3 _ (by decide))
  have hk3 : Arr τ3 (6, 0, 0) (d 2) (ask d) := hk1.row (hf3 _ (by decide))
  have hff : ∀ o : Oid, o.1 ≠ 6 → o.1 ≠ 7 → o.1 ≠ 8 → o.1 ≠ 9 → τ3 o = τ o := fun o g1 g2 _ _ => (hf3 o g2).trans (hf1 o g1)
  rw [hv3 2 (by omega), hv3 3 (by omega)]
  refine br_le (by omega) (by omega) (fun hle => ?_) (fun hlt => ?_)
  · have hmm : m = d 2 := by omega
    subst hmm
    rw [fa_lit 2]
    refine br_ne (by omega) (by omega) (fun h => ?_) (fun h => ?_)
    · have e : am0 d = shr d (kmx d) := if_pos h
      refine R_proportions hI hv3 hk3 (fun τ16 hf16 ha16 => ?_)
      exact b48 τ16 (fun o g1 g2 g3 g4 => (hf16 o g2 g3 g4).trans (hff o g1 g2 g3 g4)) (hk3.row (hf16 _ (by decide) (by decide) (by decide))) (by rw [e]; exact ha16)
    · have e : am0 d = fun _ => 0 := if_neg h
      exact b48 τ3 hff hk3 (by rw [e]; exact hp3)
  · simp (discharger := omega) only [fa_lit, vin, nI_clamp, true_and, nI_add]
    rintro _ rfl _ rfl
    refine next hlt _ ⟨fun o h1 => ?_, hp3.push⟩
    rw [mup_ne _ _ _ (fun z => h1 (by rw [z]))]
    exact hf3 o h1
