/-! PART 26: copies, hours that pass -/
section CP
variable {d : Dst} {τ : Mem} {j : Nat}
def Cp (τ' : Mem) (j : Nat) (d : Dst) (kd ku kh ka : Nat) : Prop := τ' (7, j, 0) 5 = nI (d 1) ∧ (∀ i, i < kd → τ' (13, j, i) 0 = nI (d (40 + i)) ∧ τ' (13, j, i) 1 = nI (d (50 + i)) ∧ τ' (13, j, i) 2 = nI (d (60 + i))) ∧ (∀ u, u < ku → ∀ k, k < 12 → τ' (14, j, u) k = nI (d (70 + 12 * k + u))) ∧ (∀ r, r < ku → τ' (10, j, 0) r = nI (rkd d r)) ∧ (∀ h, h < kh → τ' (11, j, 0) h = nI (d (12 + h))) ∧ ∀ i, i < ka → τ' (12, j, 0) i = nI (d (5 + i))
/-- outside of state j nothing has changed -/
def FrS (j : Nat) (τ τ' : Mem) : Prop := ∀ o : Oid, (o.1 < 7 ∨ 14 < o.1 ∨ o.2.1 ≠ j) → τ' o = τ o
theorem FrS.rf {j : Nat} {τ : Mem} : FrS j τ τ := fun _ _ => rfl
theorem FrS.up {j : Nat} {τ τ' : Mem} (h : FrS j τ τ') {k i : Nat} (hk : 7 ≤ k ∧ k ≤ 14) (f : Nat) (x : Int32) : FrS j τ (mup τ' (k, j, i) f x) := fun o ho => by
  rw [mup_ne _ _ _ (fun z => by rw [z] at ho; dsimp only at ho; omega)]
  exact h o ho
theorem FrS.fj {j : Nat} {τ τ' : Mem} (h : FrS j τ τ') : FrJ j τ τ' := fun o _ _ _ q => h o q
theorem C_copyFrom {j1 : Nat} {Q : Mem → Prop} (g : Geo d) (hj : j1 ≠ j) (hv : RepX τ j1 d) (hQ : ∀ τ' : Mem, FrS j τ τ' → RepX τ' j d → Q τ') : J_X2_copyFrom j j1 τ Q := by
  have hN := g.nd
  have hn := g.nu
  have rep : ∀ {τ' : Mem}, FrS j τ τ' → RepX τ' j1 d := fun h => hv.row (fun o _ _ q => h o (by omega))
  unfold J_X2_copyFrom
  rw [hv.nd]
  rintro _ rfl
  refine lpM (d 1) (by omega) (fun k τ' => FrS j τ τ' ∧ Cp τ' j d k 0 0 0) ⟨FrS.rf.up (by decide) _ _, mup_same _ _ _ _, fun i h => absurd h (Nat.not_lt_zero _), fun i h => absurd h (Nat.not_lt_zero _), fun i h => absurd h (Nat.not_lt_zero _), fun i h => absurd h (Nat.not_lt_zero _), fun i h => absurd h (Nat.not_lt_zero _)⟩ (fun k τ2 I μ hk hP next => ?_)
  obtain ⟨hf, c1, c2, c3, c4, c5, c6⟩ := hP
  have r2 := rep hf
  rw [c1]
  refine br_le (by omega) (by omega) (fun hle => ?_) (fun hlt => ?_)
  · have : k = d 1 := by omega
    subst this
    rw [r2.nu]
    rintro _ rfl
    refine lpM (d 2) (by omega) (fun m τ' => FrS j τ τ' ∧ τ' (7, j, 0) 6 = nI (d 2) ∧ Cp τ' j d (d 1) m 0 0) ⟨hf.up (by decide) _ _, mup_same _ _ _ _, ?_, fun i hi => ?_, fun i h => absurd h (Nat.not_lt_zero _), fun i h => absurd h (Nat.not_lt_zero _), fun i h => absurd h (Nat.not_lt_zero _), fun i h => absurd h (Nat.not_lt_zero _)⟩ (fun m τ5 I5 μ5 hm hP5 next5 => ?_)
    · rw [mup_other _ _ _ (by decide)]; exact c1
    · rw [mup_k _ _ _ (by decide : (13 : Nat) ≠ 7)]; exact c2 i hi
    obtain ⟨hf5, e6, d1, d2, d3, d4, d5, d6⟩ := hP5
    have r5 := rep hf5
    rw [e6]
    refine br_le (by omega) (by omega) (fun hle2 => ?_) (fun hlt2 => ?_)
    · have : m = d 2 := by omega
      subst this
      refine lpM 24 (by decide) (fun h τ' => FrS j τ τ' ∧ τ' (7, j, 0) 6 = nI (d 2) ∧ Cp τ' j d (d 1) (d 2) h 0) ⟨hf5, e6, d1, d2, d3, d4, d5, d6⟩ (fun h τ7 I7 μ7 hh hP7 next7 => ?_)
      obtain ⟨hf7, e76, g1, g2, g3, g4, g5, g6⟩ := hP7
      have r7 := rep hf7
      rw [fa_lit 24]
      refine br_le (by decide) (by omega) (fun hle3 => ?_) (fun hlt3 => ?_)
      · have : h = 24 := by omega
        subst this
        refine lpM 7 (by decide) (fun i τ' => FrS j τ τ' ∧ τ' (7, j, 0) 6 = nI (d 2) ∧ Cp τ' j d (d 1) (d 2) 24 i) ⟨hf7, e76, g1, g2, g3, g4, g5, g6⟩ (fun i τ9 I9 μ9 hi hP9 next9 => ?_)
        obtain ⟨hf9, e96, k1, k2, k3, k4, k5, k6⟩ := hP9
        have r9 := rep hf9
        have hj7 : ((7, j1, 0) : Oid) ≠ (7, j, 0) := fun z => hj (congrArg (fun o : Oid => o.2.1) z)
        rw [fa_lit 7]
        refine br_le (by decide) (by omega) (fun hle4 => ?_) (fun hlt4 => ?_)
        · have : i = 7 := by omega
          subst this
          rw [r9.rl]
          rintro _ rfl
          rw [mup_ne _ _ _ hj7, r9.ft]
          rintro _ rfl
          rw [mup_ne _ _ _ hj7, mup_ne _ _ _ hj7, r9.tm]
          rintro _ rfl
          refine hQ _ (((hf9.up (by decide) _ _).up (by decide) _ _).up (by decide) _ _) ⟨⟨?_, ?_, ?_, ?_, ?_⟩, fun i hi => ?_, fun i hi => ?_, fun i hi => ?_, fun v hv q hq => ?_, fun s hs => ?_⟩
          · rw [mup_same]
          · rw [mup_other _ _ _ (by decide), mup_other _ _ _ (by decide), mup_other _ _ _ (by decide)]; exact k1
          · rw [mup_other _ _ _ (by decide), mup_other _ _ _ (by decide), mup_other _ _ _ (by decide)]; exact e96
          · rw [mup_other _ _ _ (by decide), mup_other _ _ _ (by decide), mup_same]
          · rw [mup_other _ _ _ (by decide), mup_same]
          · rw [mup_k _ _ _ (by decide : (12 : Nat) ≠ 7), mup_k _ _ _ (by decide : (12 : Nat) ≠ 7), mup_k _ _ _ (by decide : (12 : Nat) ≠ 7)]; exact k6 i hi
          · rw [mup_k _ _ _ (by decide : (11 : Nat) ≠ 7), mup_k _ _ _ (by decide : (11 : Nat) ≠ 7), mup_k _ _ _ (by decide : (11 : Nat) ≠ 7)]; exact k5 i hi
          · rw [mup_k _ _ _ (by decide : (13 : Nat) ≠ 7), mup_k _ _ _ (by decide : (13 : Nat) ≠ 7), mup_k _ _ _ (by decide : (13 : Nat) ≠ 7)]; exact k2 i hi
          · rw [mup_k _ _ _ (by decide : (14 : Nat) ≠ 7), mup_k _ _ _ (by decide : (14 : Nat) ≠ 7), mup_k _ _ _ (by decide : (14 : Nat) ≠ 7)]; exact k3 v hv q hq
          · rw [mup_k _ _ _ (by decide : (10 : Nat) ≠ 7), mup_k _ _ _ (by decide : (10 : Nat) ≠ 7), mup_k _ _ _ (by decide : (10 : Nat) ≠ 7)]; exact k4 s hs
        · rw [nI_clamp (by omega), r9.ac hlt4]
          refine ⟨vp_in_nI hlt4 (by decide), vp_in_nI hlt4 (by decide), ?_⟩
          rintro _ rfl _ rfl
          rw [nI_1]
          refine next9 hlt4 _ ⟨hf9.up (by decide) _ _, ?_, ?_, fun q hq => ?_, fun q hq => ?_, fun q hq => ?_, fun q hq => ?_, fun q hq => ?_⟩
          · rw [mup_k _ _ _ (by decide : (7 : Nat) ≠ 12)]; exact e96
          · rw [mup_k _ _ _ (by decide : (7 : Nat) ≠ 12)]; exact k1
          · rw [mup_k _ _ _ (by decide : (13 : Nat) ≠ 12)]; exact k2 q hq
          · rw [mup_k _ _ _ (by decide : (14 : Nat) ≠ 12)]; exact k3 q hq
          · rw [mup_k _ _ _ (by decide : (10 : Nat) ≠ 12)]; exact k4 q hq
          · rw [mup_k _ _ _ (by decide : (11 : Nat) ≠ 12)]; exact k5 q hq
          · rw [mup_at]
            by_cases z : q = i
            · rw [if_pos z, z]
            · rw [if_neg z]; exact k6 q (by omega)
      · rw [nI_clamp (by omega), r7.sp hlt3]
        refine ⟨vp_in_nI hlt3 (by decide), vp_in_nI hlt3 (by decide), ?_⟩
        rintro _ rfl _ rfl
        rw [nI_1]
        refine next7 hlt3 _ ⟨hf7.up (by decide) _ _, ?_, ?_, fun q hq => ?_, fun q hq => ?_, fun q hq => ?_, fun q hq => ?_, fun q hq => absurd hq (Nat.not_lt_zero _)⟩
        · rw [mup_k _ _ _ (by decide : (7 : Nat) ≠ 11)]; exact e76
        · rw [mup_k _ _ _ (by decide : (7 : Nat) ≠ 11)]; exact g1
        · rw [mup_k _ _ _ (by decide : (13 : Nat) ≠ 11)]; exact g2 q hq
        · rw [mup_k _ _ _ (by decide : (14 : Nat) ≠ 11)]; exact g3 q hq
        · rw [mup_k _ _ _ (by decide : (10 : Nat) ≠ 11)]; exact g4 q hq
        · rw [mup_at]
          by_cases z : q = h
          · rw [if_pos z, z]
          · rw [if_neg z]; exact g5 q (by omega)
    · rw [nI_clamp (by omega)]
      have hb : isB (τ5 (14, j1, m) 11) := by
        rw [r5.u11 hlt2]
        have := (g.ug hlt2).2.2.2.2.2.2.2.2.2
        rcases (by omega : d (202 + m) = 0 ∨ d (202 + m) = 1) with q | q <;> rw [q]
        · exact Or.inl rfl
        · exact Or.inr rfl
      refine ⟨vp_in_nI (by omega) (by decide), vp_in_nI (by omega) (by decide), C_copy4 (fun z => hj (congrArg (fun o : Oid => o.2.1) z)) hb (fun τ24 hf24 hv24 => ⟨vp_in_nI (by omega) (by decide), vp_in_nI (by omega) (by decide), ?_⟩)⟩
      have e10 : τ24 (10, j1, 0) m = nI (rkd d m) := by rw [hf24 _ (oid_ne (by decide : (10 : Nat) ≠ 14))]; exact r5.rk hlt2
      rw [e10]
      rintro _ rfl _ rfl
      rw [nI_1]
      have hf27 : FrS j τ (mup τ24 (10, j, 0) m (nI (rkd d m))) := by
        refine FrS.up (fun o ho => ?_) (by decide) _ _
        rw [hf24 o (fun z => by rw [z] at ho; dsimp only at ho; omega)]
        exact hf5 o ho
      refine next5 hlt2 _ ⟨hf27, ?_, ?_, fun q hq => ?_, fun q hq f hff => ?_, fun q hq => ?_, fun q hq => absurd hq (Nat.not_lt_zero _), fun q hq => absurd hq (Nat.not_lt_zero _)⟩
      · rw [mup_k _ _ _ (by decide : (7 : Nat) ≠ 10), hf24 _ (oid_ne (by decide : (7 : Nat) ≠ 14))]; exact e6
      · rw [mup_k _ _ _ (by decide : (7 : Nat) ≠ 10), hf24 _ (oid_ne (by decide : (7 : Nat) ≠ 14))]; exact d1
      · rw [mup_k _ _ _ (by decide : (13 : Nat) ≠ 10), hf24 _ (oid_ne (by decide : (13 : Nat) ≠ 14))]; exact d2 q hq
      · rw [mup_k _ _ _ (by decide : (14 : Nat) ≠ 10)]
        by_cases z : q = m
        · rw [z, hv24 f hff]
          exact r5.2.2.2.2.1 m hlt2 f hff
        · rw [hf24 _ (oid_ne3 z)]
          exact d3 q (by omega) f hff
      · rw [mup_at]
        by_cases z : q = m
        · rw [if_pos z, z]
        · rw [if_neg z, hf24 _ (oid_ne (by decide : (10 : Nat) ≠ 14))]
          exact d4 q (by omega)
  · rw [nI_clamp (by omega), r2.pa hlt, r2.ga hlt, r2.lo hlt]
    refine ⟨vp_in_nI (by omega) (by decide), vp_in_nI (by omega) (by decide), ?_⟩
    unfold J_X0_begin
    rintro _ rfl _ rfl _ rfl _ rfl
    rw [nI_1]
    refine next hlt _ ⟨((hf.up (by decide) _ _).up (by decide) _ _).up (by decide) _ _, ?_, fun q hq => ?_, fun q hq => absurd hq (Nat.not_lt_zero _), fun q hq => absurd hq (Nat.not_lt_zero _), fun q hq => absurd hq (Nat.not_lt_zero _), fun q hq => absurd hq (Nat.not_lt_zero _)⟩
    · rw [mup_k _ _ _ (by decide : (7 : Nat) ≠ 13), mup_k _ _ _ (by decide : (7 : Nat) ≠ 13), mup_k _ _ _ (by decide : (7 : Nat) ≠ 13)]; exact c1
    · by_cases z : q = k
      · rw [z, mup_same, mup_other _ _ _ (by decide), mup_other _ _ _ (by decide), mup_same, mup_other _ _ _ (by decide), mup_same]
        exact ⟨rfl, rfl, rfl⟩
      · rw [mup_k3 _ _ _ z, mup_k3 _ _ _ z, mup_k3 _ _ _ z]
        exact c2 q (by omega)
end CP
/-- k hours later -/
noncomputable def psn (d : Dst) : Nat → Dst
  | 0 => d
  | k + 1 => pass (psn d k)
theorem psn_inv {T : Nat} {d : Dst} (hI : Inv T d) : ∀ {k : Nat}, T + k ≤ 30000 → Inv (T + k) (psn d k)
  | 0, _ => hI
  | k + 1, h => pass_inv (psn_inv hI (by omega)) (by omega)
theorem i32_cyc (a b c : Int32) : (a - c) + (b - a) = b - c := by
  rw [Int32.sub_eq_add_neg, Int32.sub_eq_add_neg, Int32.sub_eq_add_neg, Int32.add_comm b, Int32.add_comm a, Int32.add_assoc, ← Int32.add_assoc a, Int32.add_comm a, Int32.add_comm (-a) a, ← Int32.sub_eq_add_neg a a, Int32.sub_self, Int32.zero_add, Int32.add_comm]

section C4
variable {T : Nat} {σ ρ : Mem} {d : Dst} {b : Nat → Nat} {ds : Nat → Dst} {n : Nat} {t : Nat → Nat}
theorem psn_2 (h2 : d 2 ≤ 12) : ∀ k, psn d k 2 = d 2
  | 0 => rfl
  | k + 1 => by
    have ih := psn_2 h2 k
    show pass (psn d k) 2 = _
    unfold pass
    rw [du_ne _ _ (by omega), psU_lo (by omega) (by omega)]
    exact ih
theorem psn_lo {k i : Nat} (h2 : d 2 ≤ 12) (hi : 0 < i ∧ i < 5 ∨ 11 < i ∧ i < 154 ∨ 166 ≤ i ∧ i < 190) : psn d k i = d i := by
  induction k with
  | zero => rfl
  | succ k ih =>
    have e2 := psn_2 h2 k
    show pass (psn d k) i = _
    unfold pass
    rw [du_ne _ _ (by omega), psU_lo (by omega) (by omega)]
    exact ih
/-- the first of the hours 0 to 48 in which something holds, or 48 -/
theorem first_h (P : Nat → Prop) (m : Nat) : ∃ k, k ≤ m ∧ (∀ i, i < k → ¬ P i) ∧ (k = m ∨ P k) := by
  induction m with
  | zero => exact ⟨0, Nat.le_refl _, fun i h => absurd h (Nat.not_lt_zero _), Or.inl rfl⟩
  | succ m ih =>
    obtain ⟨k, h1, h2, h3⟩ := ih
    by_cases hp : P k
    · exact ⟨k, by omega, h2, Or.inr hp⟩
    · have hk : k = m := by
        rcases h3 with q | q
        · exact q
        · exact absurd q hp
      subst hk
      refine ⟨k + 1, Nat.le_refl _, fun i hi => ?_, Or.inl rfl⟩
      by_cases q : i = k
      · rw [q]; exact hp
      · exact h2 i (by omega)
theorem C_fullQ {τ : Mem} {j u : Nat} {Q : Int32 → Mem → Prop} (hI : Inv T d) (hv : RepX τ j d) (hu : u < d 2) (h1 : d (154 + u) = d (142 + u) → Q 0 τ) (h0 : d (154 + u) ≠ d (142 + u) → ∀ r : Int32, ¬ r = 0 → Q r τ) : J_X4_room j u τ Q := by
  have hb := hI.geo.ug hu
  have b6 := hb.2.2.2.2.2.1
  have b7 := hb.2.2.2.2.2.2.1
  refine C_room hI hv hu ?_
  by_cases q : d (154 + u) = d (142 + u)
  · rw [q, Nat.sub_self]; exact h1 q
  · refine h0 q _ ?_
    rw [fa_lit 0, nI_eq (by omega) (by omega)]
    omega
end C4
