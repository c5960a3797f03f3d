/-! PART 13: the reference's reads and its distribution -/
def RepM (τ : Mem) (d : Dst) : Prop := ∀ k, k < 214 → τ (1, 0, 0) k = nI (d k)
theorem RepM.row {τ τ' : Mem} {d : Dst} (h : RepM τ d) (e : τ' (1, 0, 0) = τ (1, 0, 0)) : RepM τ' d := fun k hk => by rw [e]; exact h k hk
/-- the bounds of a user's numbers -/
def UB (T : Nat) (d : Dst) (u : Nat) : Prop := d (82 + u) ≤ 2099 ∧ d (94 + u) ≤ 60 ∧ d (106 + u) ≤ 60 ∧ d (118 + u) ≤ 24 ∧ d (130 + u) ≤ 24 ∧ d (142 + u) ≤ 500 ∧ d (154 + u) ≤ d (142 + u) ∧ d (166 + u) ≤ 20 ∧ d (178 + u) ≤ 24 ∧ d (190 + u) ≤ 100 * T ∧ d (202 + u) ≤ 1
def Inv (T : Nat) (d : Dst) : Prop := Topo d ∧ d 1 ≤ 10 ∧ d 2 ≤ 12 ∧ d 3 ≤ 2 ∧ d 4 ≤ 100 ∧ d 0 ≤ T ∧ T ≤ 30000 ∧ (∀ i, i < 7 → d (5 + i) ≤ 7000 * T) ∧ (∀ h, h < 24 → d (12 + h) ≤ 200) ∧ (∀ i, i < d 1 → 1 ≤ d (50 + i) ∧ d (50 + i) ≤ 200) ∧ (∀ u, u < d 2 → UB T d u) ∧ Rk d
theorem hr_lt (d : Dst) : hr d < 24 := Nat.mod_lt _ (by decide)
theorem need_le {T : Nat} {d : Dst} {u : Nat} (h : UB T d u) : need d u ≤ 60 := by
  unfold need
  have := h.2.2.1
  split <;> omega
theorem could_le {T : Nat} {d : Dst} {u : Nat} (h : UB T d u) : could d u ≤ 560 := by
  have h1 := need_le h
  have h2 := h.2.2.2.2.2.1
  unfold could
  omega
theorem ask_le {T : Nat} {d : Dst} {u : Nat} (h : UB T d u) : ask d u ≤ 560 := by
  have h1 := could_le h
  unfold ask
  split
  · split <;> omega
  · omega
theorem dI_lt {k h : Nat} (hk : k < 2 ^ 30) (hh : h < 2 ^ 30) : dI k < nI h ↔ k ≤ h := by
  cases k with
  | zero =>
    rw [dI_0]
    constructor
    · intro _; exact Nat.zero_le _
    · intro _
      rw [Int32.lt_iff_toInt_lt, nI_toInt (by omega)]
      show (-1 : Int) < _
      omega
  | succ k =>
    rw [dI_succ, nI_ltI (by omega) (by omega)]
    omega
theorem R_in {x lo hi : Int32} {τ : Mem} {Q : Int32 → Mem → Prop} (h1 : x < lo ∨ hi < x → Q 0 τ) (h2 : ¬ x < lo → ¬ hi < x → Q 1 τ) : J_X6_in x lo hi τ Q := ⟨fun h => h1 (Or.inl h), fun h => ⟨fun q => h1 (Or.inr q), fun q => h2 h q⟩⟩
theorem R_hour {T : Nat} {d : Dst} {τ : Mem} {Q : Int32 → Mem → Prop} (hI : Inv T d) (hv : RepM τ d) (hQ : Q (nI (hr d)) τ) : J_X6_hour τ Q := by
  unfold J_X6_hour
  have h0 := hI.2.2.2.2.2.1
  have h1 := hI.2.2.2.2.2.2.1
  rw [hv 0 (by omega), fa_lit, pk_rem (by omega) (by decide) (by decide)]
  exact hQ
theorem R_need {T : Nat} {d : Dst} {τ : Mem} {Q : Int32 → Mem → Prop} {u : Nat} (hI : Inv T d) (hv : RepM τ d) (hu : u < d 2) (hQ : Q (nI (need d u)) τ) : J_X6_need (nI u) τ Q := by
  have hn := hI.2.2.1
  obtain ⟨-, -, b3, b4, b5, -⟩ := hI.2.2.2.2.2.2.2.2.2.2.1 u hu
  have hh := hr_lt d
  unfold J_X6_need
  refine R_hour hI hv ?_
  simp (discharger := omega) only [fa_lit, nI_add, vin, nI_clamp, hv (118 + u), hv (130 + u), hv (106 + u), true_and]
  have e : nI (d (130 + u)) - nI 1 = dI (d (130 + u)) := rfl
  rw [e]
  refine R_in (fun h => ?_) (fun h1 h2 => ?_)
  · refine ⟨fun _ => ?_, fun q => absurd rfl q⟩
    have : need d u = 0 := by
      unfold need
      rw [if_neg]
      rintro ⟨q1, q2⟩
      rcases h with h | h
      · rw [nI_ltI (by omega) (by omega)] at h
        omega
      · rw [dI_lt (by omega) (by omega)] at h
        omega
    rw [this] at hQ
    exact hQ
  · rw [nI_ltI (by omega) (by omega)] at h1
    rw [dI_lt (by omega) (by omega)] at h2
    refine ⟨fun q => absurd q (by decide), fun _ => ?_⟩
    have : need d u = d (106 + u) := if_pos ⟨by omega, by omega⟩
    rw [this, ← hv (106 + u) (by omega)] at hQ
    exact hQ
/-- the turn, as the reference has it and as the class has it -/
def turnR (d : Dst) : Int32 := if tnow d = 99 then -1 else nI (tnow d)
def turnC (d : Dst) : Int32 := if tnow d = 99 then -105 else nI (tnow d)
theorem tnow_99 {d : Dst} (h : ¬ (d 3 = 1 ∧ tsum d (d 2) ≠ 0)) : tnow d = 99 := if_neg h
theorem R_turnNow {T : Nat} {d : Dst} {τ : Mem} {Q : Int32 → Mem → Prop} (hI : Inv T d) (hv : RepM τ d) (hQ : Q (turnR d) τ) : J_X6_turnNow τ Q := by
  obtain ⟨hT, hN, hn, h3, h4, h0, hTT, -, -, -, hU, hR⟩ := id hI
  have hts := tsum_le (d := d) (m := d 2) (fun u hu => (hU u hu).2.2.2.2.2.2.2.2.1)
  unfold J_X6_turnNow
  refine lpA (d 2) (by omega) (fun k => nI (tsum d k)) rfl (fun k I μ hk next => ?_)
  have hk1 := hts k hk
  rw [hv 2 (by omega), hv 3 (by omega), hv 0 (by omega), fa_lit 0, fa_lit 1]
  refine br_le (by omega) (by omega) (fun hle => ?_) (fun hlt => ?_)
  · have hkk : k = d 2 := by omega
    subst hkk
    refine br_ne (by omega) (by omega) (fun h31 => ?_) (fun h31 => ?_)
    · refine br_ne (by omega) (by omega) (fun hz => ?_) (fun hz => ?_)
      · have e := tnow_99 (d := d) (fun q => q.2 hz)
        unfold turnR at hQ
        rw [if_pos e] at hQ
        exact hQ
      · have e : tnow d = tfd d (d 2) 0 (d 0 % tsum d (d 2)) := if_pos ⟨h31, hz⟩
        have hlt := Nat.mod_lt (d 0) (Nat.pos_of_ne_zero hz)
        have h99 : tnow d ≠ 99 := by
          have := (tfd_lt (d := d) (d 2) 0 (d 0 % tsum d (d 2)) (by simp only [tsum, Nat.zero_add]; omega)).1
          omega
        unfold turnR at hQ
        rw [if_neg h99] at hQ
        refine ⟨fun q => hz ((nI_eq (by omega) (by decide)).mp q), ?_⟩
        rintro _ rfl
        rw [pk_rem (by omega) (by omega) (by omega)]
        refine ⟨fun w x => ∃ k w0, k < d 2 ∧ x = nI k ∧ w = nI w0 ∧ w0 + tsum d k < tsum d (d 2) ∧ tfd d (d 2 - k) k w0 = tnow d, fun _ x => d 2 - x.toNatClampNeg, ⟨0, d 0 % tsum d (d 2), ?_, rfl, rfl, ?_, ?_⟩, ?_⟩
        · rcases Nat.eq_zero_or_pos (d 2) with q | q
          · rw [q] at hz; exact absurd rfl hz
          · exact q
        · simp only [tsum]; omega
        · rw [e]; rfl
        · rintro w x ⟨k, w0, hk, rfl, rfl, hw, hf⟩
          have b9 := (hU k hk).2.2.2.2.2.2.2.2.1
          have hsk : tsum d (k + 1) = tsum d k + d (178 + k) := rfl
          have hd2 := hts (d 2) (Nat.le_refl _)
          simp (discharger := omega) only [fa_lit, nI_add, vin, nI_clamp, hv (178 + k), true_and]
          have e2 : tfd d (d 2 - k) k w0 = if w0 < d (178 + k) then k else tfd d (d 2 - (k + 1)) (k + 1) (w0 - d (178 + k)) := by
            rw [show d 2 - k = (d 2 - (k + 1)) + 1 by omega]
            rfl
          refine br_lt (by omega) (by omega) (fun h => ?_) (fun h => ?_)
          · rw [if_pos h] at e2
            rw [← hf, e2] at hQ
            exact hQ
          · rw [if_neg (by omega)] at e2
            rintro _ rfl _ rfl
            have hk2 : k + 1 < d 2 := by
              rcases Nat.lt_or_ge (k + 1) (d 2) with q | q
              · exact q
              · have : k + 1 = d 2 := by omega
                rw [← this, hsk] at hw
                omega
            rw [pk_sub h]
            refine ⟨⟨k + 1, w0 - d (178 + k), hk2, rfl, rfl, by omega, by rw [← e2]; exact hf⟩, ?_⟩
            show d 2 - (nI (k + 1)).toNatClampNeg < d 2 - k
            rw [nI_clamp (by omega)]
            omega
    · have e := tnow_99 (d := d) (fun q => h31 q.1)
      unfold turnR at hQ
      rw [if_pos e] at hQ
      exact hQ
  · have b9 := (hU k hlt).2.2.2.2.2.2.2.2.1
    simp (discharger := omega) only [fa_lit, nI_add, vin, nI_clamp, hv (178 + k), true_and]
    rintro _ rfl _ rfl
    exact next hlt
/-- what R_findAsked leaves -/
theorem R_findAsked {T : Nat} {d : Dst} {τ : Mem} {Q : Mem → Prop} (hI : Inv T d) (hv : RepM τ d) (hQ : ∀ τ' : Mem, (∀ o : Oid, o.1 ≠ 6 → τ' o = τ o) → Arr τ' (6, 0, 0) (d 2) (ask d) → Q τ') : J_X6_findAsked τ Q := by
  obtain ⟨hT, hN, hn, h3, h4, h0, hTT, -, -, -, hU, hR⟩ := id hI
  unfold J_X6_findAsked
  refine R_turnNow hI hv ?_
  refine lpM (d 2) (by omega) (fun k τ' => (∀ o : Oid, o.1 ≠ 6 → τ' o = τ o) ∧ Arr τ' (6, 0, 0) k (ask d)) ⟨fun _ _ => rfl, fun i hi => absurd hi (Nat.not_lt_zero _)⟩ (fun k τ1 I μ hk hP next => ?_)
  obtain ⟨hf, hA⟩ := hP
  have hv1 : RepM τ1 d := hv.row (hf _ (by decide))
  rw [hv1 2 (by omega)]
  refine br_le (by omega) (by omega) (fun hle => ?_) (fun hlt => ?_)
  · have hkk : k = d 2 := by omega
    subst hkk
    exact hQ τ1 hf hA
  · obtain ⟨-, b2, b3, b4, b5, b6, b7, b8, b9, b10, b11⟩ := hU k hlt
    have hnl := need_le (hU k hlt)
    refine R_need hI hv1 hlt ?_
    have hc : could d k = need d k + d (142 + k) - d (154 + k) := by unfold could; omega
    have hs : ∀ v : Nat, v = ask d k → I (nI (k + 1)) (mup τ1 (6, 0, 0) k (nI v)) ∧ μ (nI (k + 1)) (mup τ1 (6, 0, 0) k (nI v)) < μ (nI k) τ1 := by
      intro v hv'
      refine next hlt _ ⟨fun o ho => ?_, ?_⟩
      · rw [mup_ne _ _ _ (fun z => ho (by rw [z]))]
        exact hf o ho
      · rw [hv']
        exact hA.push
    simp (discharger := omega) only [fa_lit, nI_add, vin, nI_clamp, hv1 (142 + k), hv1 (154 + k), hv1 (202 + k), hv1 (94 + k), true_and]
    rintro _ rfl
    rw [pk_sub (by omega), ← hc]
    have hcl := could_le (hU k hlt)
    refine br_ne (by omega) (by omega) (fun h202 => ?_) (fun h202 => ?_)
    · rintro _ rfl _ rfl
      exact hs 0 (by unfold ask; rw [if_neg (by omega)])
    · have e202 : d (202 + k) = 0 := by omega
      have key : nI k = turnR d ↔ k = tnow d := by
        unfold turnR
        split
        · constructor
          · intro q
            have := congrArg Int32.toInt q
            rw [nI_toInt (by omega)] at this
            have h2 : (-1 : Int32).toInt = -1 := by decide
            rw [h2] at this
            omega
          · intro q; omega
        · rename_i h99
          have := (tnow_lt h99).2.2.1
          rw [nI_eq (by omega) (by omega)]
      refine ⟨fun q => ?_, fun q => ?_⟩
      · have hne : ¬ k = tnow d := fun z => q (key.mpr z)
        have ea : ask d k = min (could d k) (d (94 + k)) := by unfold ask; rw [if_pos e202, if_neg hne]
        unfold J_X6_least
        refine br_le (by omega) (by omega) (fun h => ?_) (fun h => ?_)
        · rintro _ rfl _ rfl
          exact hs _ (by rw [ea]; omega)
        · rintro _ rfl _ rfl
          exact hs _ (by rw [ea]; omega)
      · have hne : k = tnow d := key.mp q
        have ea : ask d k = could d k := by unfold ask; rw [if_pos e202, if_pos hne]
        rintro _ rfl _ rfl
        exact hs _ ea.symm
