/-! PART 16: the class's state as numbers (RepX); its reads, the turn, what a user asks for -/
def RepX (σ : Mem) (j : Nat) (d : Dst) : Prop :=
  (σ (7, j, 0) 9 = nI (d 0) ∧ σ (7, j, 0) 5 = nI (d 1) ∧ σ (7, j, 0) 6 = nI (d 2) ∧ σ (7, j, 0) 7 = nI (d 3) ∧ σ (7, j, 0) 8 = nI (d 4)) ∧
  (∀ i, i < 7 → σ (12, j, 0) i = nI (d (5 + i))) ∧
  (∀ h, h < 24 → σ (11, j, 0) h = nI (d (12 + h))) ∧
  (∀ i, i < d 1 → σ (13, j, i) 0 = nI (d (40 + i)) ∧ σ (13, j, i) 1 = nI (d (50 + i)) ∧ σ (13, j, i) 2 = nI (d (60 + i))) ∧
  (∀ u, u < d 2 → ∀ k, k < 12 → σ (14, j, u) k = nI (d (70 + 12 * k + u))) ∧
  (∀ r, r < d 2 → σ (10, j, 0) r = nI (rkd d r))
section RX
variable {σ τ : Mem} {j : Nat} {d : Dst}
theorem RepX.tm (h : RepX σ j d) : σ (7, j, 0) 9 = nI (d 0) := h.1.1
theorem RepX.nd (h : RepX σ j d) : σ (7, j, 0) 5 = nI (d 1) := h.1.2.1
theorem RepX.nu (h : RepX σ j d) : σ (7, j, 0) 6 = nI (d 2) := h.1.2.2.1
theorem RepX.rl (h : RepX σ j d) : σ (7, j, 0) 7 = nI (d 3) := h.1.2.2.2.1
theorem RepX.ft (h : RepX σ j d) : σ (7, j, 0) 8 = nI (d 4) := h.1.2.2.2.2
theorem RepX.ac (h : RepX σ j d) {i : Nat} (hi : i < 7) : σ (12, j, 0) i = nI (d (5 + i)) := h.2.1 i hi
theorem RepX.sp (h : RepX σ j d) {i : Nat} (hi : i < 24) : σ (11, j, 0) i = nI (d (12 + i)) := h.2.2.1 i hi
theorem RepX.pa (h : RepX σ j d) {i : Nat} (hi : i < d 1) : σ (13, j, i) 0 = nI (d (40 + i)) := (h.2.2.2.1 i hi).1
theorem RepX.ga (h : RepX σ j d) {i : Nat} (hi : i < d 1) : σ (13, j, i) 1 = nI (d (50 + i)) := (h.2.2.2.1 i hi).2.1
theorem RepX.lo (h : RepX σ j d) {i : Nat} (hi : i < d 1) : σ (13, j, i) 2 = nI (d (60 + i)) := (h.2.2.2.1 i hi).2.2
theorem RepX.u0 (h : RepX σ j d) {u : Nat} (hu : u < d 2) : σ (14, j, u) 0 = nI (d (70 + u)) := h.2.2.2.2.1 u hu 0 (by decide)
theorem RepX.u1 (h : RepX σ j d) {u : Nat} (hu : u < d 2) : σ (14, j, u) 1 = nI (d (82 + u)) := h.2.2.2.2.1 u hu 1 (by decide)
theorem RepX.u2 (h : RepX σ j d) {u : Nat} (hu : u < d 2) : σ (14, j, u) 2 = nI (d (94 + u)) := h.2.2.2.2.1 u hu 2 (by decide)
theorem RepX.u3 (h : RepX σ j d) {u : Nat} (hu : u < d 2) : σ (14, j, u) 3 = nI (d (106 + u)) := h.2.2.2.2.1 u hu 3 (by decide)
theorem RepX.u4 (h : RepX σ j d) {u : Nat} (hu : u < d 2) : σ (14, j, u) 4 = nI (d (118 + u)) := h.2.2.2.2.1 u hu 4 (by decide)
theorem RepX.u5 (h : RepX σ j d) {u : Nat} (hu : u < d 2) : σ (14, j, u) 5 = nI (d (130 + u)) := h.2.2.2.2.1 u hu 5 (by decide)
theorem RepX.u6 (h : RepX σ j d) {u : Nat} (hu : u < d 2) : σ (14, j, u) 6 = nI (d (142 + u)) := h.2.2.2.2.1 u hu 6 (by decide)
theorem RepX.u7 (h : RepX σ j d) {u : Nat} (hu : u < d 2) : σ (14, j, u) 7 = nI (d (154 + u)) := h.2.2.2.2.1 u hu 7 (by decide)
theorem RepX.u8 (h : RepX σ j d) {u : Nat} (hu : u < d 2) : σ (14, j, u) 8 = nI (d (166 + u)) := h.2.2.2.2.1 u hu 8 (by decide)
theorem RepX.u9 (h : RepX σ j d) {u : Nat} (hu : u < d 2) : σ (14, j, u) 9 = nI (d (178 + u)) := h.2.2.2.2.1 u hu 9 (by decide)
theorem RepX.u10 (h : RepX σ j d) {u : Nat} (hu : u < d 2) : σ (14, j, u) 10 = nI (d (190 + u)) := h.2.2.2.2.1 u hu 10 (by decide)
theorem RepX.u11 (h : RepX σ j d) {u : Nat} (hu : u < d 2) : σ (14, j, u) 11 = nI (d (202 + u)) := h.2.2.2.2.1 u hu 11 (by decide)
theorem RepX.rk (h : RepX σ j d) {r : Nat} (hr : r < d 2) : σ (10, j, 0) r = nI (rkd d r) := h.2.2.2.2.2 r hr
/-- only the state's own objects count -/
theorem RepX.row (h : RepX σ j d) (e : ∀ o : Oid, 7 ≤ o.1 → o.1 ≤ 14 → o.2.1 = j → τ o = σ o) : RepX τ j d := by
  obtain ⟨⟨a0, a1, a2, a3, a4⟩, b, c, f, g, k⟩ := h
  have e7 := e (7, j, 0) (by decide : (7 : Nat) ≤ 7) (by decide : (7 : Nat) ≤ 14) rfl
  refine ⟨⟨by rw [e7]; exact a0, by rw [e7]; exact a1, by rw [e7]; exact a2, by rw [e7]; exact a3, by rw [e7]; exact a4⟩, fun i hi => ?_, fun i hi => ?_, fun i hi => ?_, fun u hu q hq => ?_, fun r hr => ?_⟩
  · rw [e (12, j, 0) (by decide : (7 : Nat) ≤ 12) (by decide : (12 : Nat) ≤ 14) rfl]; exact b i hi
  · rw [e (11, j, 0) (by decide : (7 : Nat) ≤ 11) (by decide : (11 : Nat) ≤ 14) rfl]; exact c i hi
  · rw [e (13, j, i) (by decide : (7 : Nat) ≤ 13) (by decide : (13 : Nat) ≤ 14) rfl]; exact f i hi
  · rw [e (14, j, u) (by decide : (7 : Nat) ≤ 14) (by decide : (14 : Nat) ≤ 14) rfl]; exact g u hu q hq
  · rw [e (10, j, 0) (by decide : (7 : Nat) ≤ 10) (by decide : (10 : Nat) ≤ 14) rfl]; exact k r hr
/-- the flow's objects don't count -/
theorem RepX.fl (h : RepX σ j d) (e : ∀ o : Oid, o.1 ≠ 3 → o.1 ≠ 4 → o.1 ≠ 15 → τ o = σ o) : RepX τ j d := h.row (fun o h1 h2 _ => e o (by omega) (by omega) (by omega))
end RX
theorem nI_xor (a b : Nat) : nI a ^^^ nI b = nI (a ^^^ b) := by
  apply Int32.toBitVec_inj.1
  show BitVec.ofNat 32 a ^^^ BitVec.ofNat 32 b = BitVec.ofNat 32 (a ^^^ b)
  apply BitVec.eq_of_getLsbD_eq
  intro i hi
  simp only [BitVec.getLsbD_xor, BitVec.getLsbD_ofNat, Nat.testBit_xor, hi, decide_true, Bool.true_and]
section CB
variable {T : Nat} {d : Dst} {τ : Mem} {j : Nat}
theorem C_floorMod {a b : Nat} {Q : Int32 → Mem → Prop} (ha : a < 2 ^ 31) (h0 : 0 < b) (hb : b < 2 ^ 31) (hQ : Q (nI (a % b)) τ) : J_J9_floorMod_7cf53 (nI a) (nI b) τ Q := by
  unfold J_J9_floorMod_7cf53
  refine ⟨nI_ne0 h0 hb, ?_⟩
  rw [pk_rem ha h0 hb, nI_xor]
  rintro _ rfl
  exact ⟨fun _ => hQ, fun q => absurd (nI_pos' (Nat.xor_lt_two_pow ha hb)) q⟩
theorem C_hour {Q : Int32 → Mem → Prop} (hI : Inv T d) (hv : RepX τ j d) (hQ : Q (nI (hr d)) τ) : J_X2_hourOfDay j τ Q := by
  have h0 := hI.2.2.2.2.2.1
  have h1 := hI.2.2.2.2.2.2.1
  unfold J_X2_hourOfDay
  rw [hv.tm, fa_lit 24]
  exact C_floorMod (by omega) (by decide) (by decide) hQ
theorem C_supplyNow {Q : Int32 → Mem → Prop} (hI : Inv T d) (hv : RepX τ j d) (hQ : Q (nI (sup d)) τ) : J_X2_supplyNow j τ Q := by
  have hh := hr_lt d
  unfold J_X2_supplyNow
  refine C_hour hI hv ⟨vp_in_nI hh (by decide), ?_⟩
  rw [nI_clamp (by omega), hv.sp hh]
  exact hQ
theorem C_userInTurn {Q : Int32 → Mem → Prop} (hI : Inv T d) (hv : RepX τ j d) (hQ : Q (turnC d) τ) : J_X2_userInTurn j τ Q := by
  obtain ⟨hT, hN, hn, h3, h4, h0, hTT, -, -, -, hU, hR⟩ := id hI
  have hts := tsum_le (d := d) (m := d 2) (fun u hu => (hU u hu).2.2.2.2.2.2.2.2.1)
  unfold J_X2_userInTurn
  refine lpA (d 2) (by omega) (fun k => nI (tsum d k)) rfl (fun k I μ hk next => ?_)
  have hk1 := hts k hk
  rw [hv.nu, hv.rl, hv.tm, fa_lit 0, fa_lit 1]
  refine br_le (by omega) (by omega) (fun hle => ?_) (fun hlt => ?_)
  · have hkk : k = d 2 := by omega
    subst hkk
    refine br_ne (by omega) (by omega) (fun h31 => ?_) (fun h31 => ?_)
    · refine br_lt (by omega) (by omega) (fun hz => ?_) (fun hz => ?_)
      · have e : tnow d = tfd d (d 2) 0 (d 0 % tsum d (d 2)) := if_pos ⟨h31, by omega⟩
        have hlt := Nat.mod_lt (d 0) hz
        have h99 : tnow d ≠ 99 := by
          have := (tfd_lt (d := d) (d 2) 0 (d 0 % tsum d (d 2)) (by simp only [tsum, Nat.zero_add]; omega)).1
          omega
        unfold turnC at hQ
        rw [if_neg h99] at hQ
        refine C_floorMod (by omega) (by omega) (by omega) ?_
        refine ⟨fun w x => ∃ k w0, k < d 2 ∧ x = nI k ∧ w = nI w0 ∧ w0 + tsum d k < tsum d (d 2) ∧ tfd d (d 2 - k) k w0 = tnow d, fun _ x => d 2 - x.toNatClampNeg, ⟨0, d 0 % tsum d (d 2), ?_, rfl, rfl, ?_, ?_⟩, ?_⟩
        · rcases Nat.eq_zero_or_pos (d 2) with q | q
          · rw [q] at hz; exact absurd hz (Nat.lt_irrefl _)
          · exact q
        · simp only [tsum]; omega
        · rw [e]; rfl
        · rintro w x ⟨k, w0, hk, rfl, rfl, hw, hf⟩
          have b9 := (hU k hk).2.2.2.2.2.2.2.2.1
          have hsk : tsum d (k + 1) = tsum d k + d (178 + k) := rfl
          have hd2 := hts (d 2) (Nat.le_refl _)
          rw [hv.nu, nI_clamp (by omega), hv.u9 hk]
          have e2 : tfd d (d 2 - k) k w0 = if w0 < d (178 + k) then k else tfd d (d 2 - (k + 1)) (k + 1) (w0 - d (178 + k)) := by
            rw [show d 2 - k = (d 2 - (k + 1)) + 1 by omega]
            rfl
          refine br_le (by omega) (by omega) (fun h => absurd h (by omega)) (fun h => ⟨vp_in_nI (by omega) (by decide), ?_⟩)
          refine br_le (by omega) (by omega) (fun h => ⟨vp_in_nI (by omega) (by decide), ?_⟩) (fun h => ?_)
          · rw [if_neg (by omega)] at e2
            rw [pk_sub h]
            rintro _ rfl _ rfl
            have hk2 : k + 1 < d 2 := by
              rcases Nat.lt_or_ge (k + 1) (d 2) with q | q
              · exact q
              · have : k + 1 = d 2 := by omega
                rw [← this, hsk] at hw
                omega
            rw [nI_add]
            refine ⟨⟨k + 1, w0 - d (178 + k), hk2, rfl, rfl, by omega, by rw [← e2]; exact hf⟩, ?_⟩
            show d 2 - (nI (k + 1)).toNatClampNeg < d 2 - (nI k).toNatClampNeg
            rw [nI_clamp (by omega), nI_clamp (by omega)]
            omega
          · rw [if_pos h] at e2
            rw [← hf, e2] at hQ
            exact hQ
      · have e := tnow_99 (d := d) (fun q => q.2 (by omega))
        unfold turnC at hQ
        rw [if_pos e] at hQ
        exact hQ
    · have e := tnow_99 (d := d) (fun q => h31 q.1)
      unfold turnC at hQ
      rw [if_pos e] at hQ
      exact hQ
  · have b9 := (hU k hlt).2.2.2.2.2.2.2.2.1
    rw [nI_clamp (by omega), hv.u9 hlt]
    refine ⟨vp_in_nI (by omega) (by decide), ?_⟩
    rw [nI_add]
    rintro _ rfl _ rfl
    rw [nI_add]
    exact next hlt
theorem C_needAt {u : Nat} {Q : Int32 → Mem → Prop} (hI : Inv T d) (hv : RepX τ j d) (hu : u < d 2) (hQ : Q (nI (need d u)) τ) : J_X4_needAt j u (nI (hr d)) τ Q := by
  obtain ⟨-, -, b3, b4, b5, -⟩ := hI.2.2.2.2.2.2.2.2.2.2.1 u hu
  have hh := hr_lt d
  unfold J_X4_needAt
  rw [hv.u4 hu, hv.u5 hu, hv.u3 hu]
  unfold need at hQ
  refine br_lt (by omega) (by omega) (fun h => ?_) (fun h => ?_)
  · rw [if_neg (by omega)] at hQ
    exact hQ
  · refine br_le (by omega) (by omega) (fun h2 => ?_) (fun h2 => ?_)
    · rw [if_neg (by omega)] at hQ
      exact hQ
    · rw [if_pos (by omega)] at hQ
      exact hQ
theorem C_room {u : Nat} {Q : Int32 → Mem → Prop} (hI : Inv T d) (hv : RepX τ j d) (hu : u < d 2) (hQ : Q (nI (d (142 + u) - d (154 + u))) τ) : J_X4_room j u τ Q := by
  have h := hI.2.2.2.2.2.2.2.2.2.2.1 u hu
  unfold J_X4_room
  rw [hv.u6 hu, hv.u7 hu, pk_sub h.2.2.2.2.2.2.1]
  exact hQ
theorem turnC_eq {k : Nat} (hI : Inv T d) (hk : k < d 2) : nI k = turnC d ↔ k = tnow d := by
  have hn := hI.2.2.1
  unfold turnC
  split
  · constructor
    · intro q
      have := congrArg Int32.toInt q
      rw [nI_toInt (by omega)] at this
      have h2 : (-105 : Int32).toInt = -105 := by decide
      rw [h2] at this
      omega
    · intro q; omega
  · rename_i h99
    have := (tnow_lt h99).2.2.1
    rw [nI_eq (by omega) (by omega)]
theorem nI_min {a b : Nat} (ha : a < 2 ^ 31) (hb : b < 2 ^ 31) : (if nI b < nI a then nI b else nI a) = nI (min a b) := by
  by_cases h : b < a
  · rw [if_pos ((nI_ltI hb ha).mpr h), Nat.min_eq_right (Nat.le_of_lt h)]
  · rw [if_neg (fun q => h ((nI_ltI hb ha).mp q)), Nat.min_eq_left (Nat.le_of_not_lt h)]
theorem C_unitsAsked {u : Nat} {Q : Int32 → Mem → Prop} (hI : Inv T d) (hv : RepX τ j d) (hu : u < d 2) (hQ : Q (nI (ask d u)) τ) : J_X2_unitsAsked j (nI u) (turnC d) τ Q := by
  have hn := hI.2.2.1
  have hb := hI.2.2.2.2.2.2.2.2.2.2.1 u hu
  have hc := could_le hb
  obtain ⟨-, b2, b3, b4, b5, b6, b7, b8, b9, b10, b11⟩ := id hb
  have hnl := need_le hb
  unfold J_X2_unitsAsked
  rw [nI_clamp (by omega), hv.u11 hu, fa_lit 0]
  refine ⟨vp_in_nI (by omega) (by decide), ?_⟩
  refine br_eq (by omega) (by omega) (fun h => ?_) (fun h => ?_)
  · refine C_hour hI hv (C_needAt hI hv hu (C_room hI hv hu ?_))
    rw [nI_add, hv.u2 hu]
    have ec : need d u + (d (142 + u) - d (154 + u)) = could d u := rfl
    rw [ec]
    rintro _ rfl
    refine ⟨fun q => ?_, fun q => ?_⟩
    · have ea : ask d u = min (d (94 + u)) (could d u) := by unfold ask; rw [if_pos h, if_neg (fun z => q ((turnC_eq hI hu).mpr z)), Nat.min_comm]
      rw [nI_min (by omega) (by omega), ← ea]
      exact hQ
    · have ea : ask d u = could d u := by unfold ask; rw [if_pos h, if_pos ((turnC_eq hI hu).mp q)]
      rw [← ea]
      exact hQ
  · have ea : ask d u = 0 := by unfold ask; rw [if_neg h]
    rw [ea] at hQ
    exact hQ
end CB
