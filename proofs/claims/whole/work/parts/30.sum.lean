/-! PART 30: checksum -/
theorem lpLM {B : (Int64 → Int32 → Mem → Prop) → (Int64 → Int32 → Mem → Nat) → Int64 → Int32 → Mem → Prop} {y0 : Int64} {τ0 : Mem} (n : Nat) (hn : n < 2 ^ 30) (f : Nat → Int64) (h0 : y0 = f 0) (hB : ∀ (k : Nat) (I : Int64 → Int32 → Mem → Prop) (μ : Int64 → Int32 → Mem → Nat), k ≤ n → (k < n → I (f (k + 1)) (nI (k + 1)) τ0 ∧ μ (f (k + 1)) (nI (k + 1)) τ0 < μ (f k) (nI k) τ0) → B I μ (f k) (nI k) τ0) : ∃ (I : Int64 → Int32 → Mem → Prop) (μ : Int64 → Int32 → Mem → Nat), I y0 0 τ0 ∧ ∀ (y : Int64) (x : Int32) (τ : Mem), I y x τ → B I μ y x τ := by
  refine ⟨fun y x τ => τ = τ0 ∧ ∃ k, k ≤ n ∧ x = nI k ∧ y = f k, fun _ x _ => n - x.toNatClampNeg, ⟨rfl, 0, Nat.zero_le _, rfl, h0⟩, ?_⟩
  rintro y x τ ⟨rfl, k, hk, rfl, rfl⟩
  refine hB k _ _ hk (fun hlt => ⟨⟨rfl, k + 1, hlt, rfl, rfl⟩, ?_⟩)
  show n - (nI (k + 1)).toNatClampNeg < n - (nI k).toNatClampNeg
  rw [nI_clamp (by omega), nI_clamp (by omega)]
  omega
theorem lpL {B : (Int64 → Int32 → Prop) → (Int64 → Int32 → Nat) → Int64 → Int32 → Prop} {y0 : Int64} (n : Nat) (hn : n < 2 ^ 30) (f : Nat → Int64) (h0 : y0 = f 0) (hB : ∀ (k : Nat) (I : Int64 → Int32 → Prop) (μ : Int64 → Int32 → Nat), k ≤ n → (k < n → I (f (k + 1)) (nI (k + 1)) ∧ μ (f (k + 1)) (nI (k + 1)) < μ (f k) (nI k)) → B I μ (f k) (nI k)) : ∃ (I : Int64 → Int32 → Prop) (μ : Int64 → Int32 → Nat), I y0 0 ∧ ∀ (y : Int64) (x : Int32), I y x → B I μ y x := by
  refine ⟨fun y x => ∃ k, k ≤ n ∧ x = nI k ∧ y = f k, fun _ x => n - x.toNatClampNeg, ⟨0, Nat.zero_le _, rfl, h0⟩, ?_⟩
  rintro y x ⟨k, hk, rfl, rfl⟩
  refine hB k _ _ hk (fun hlt => ⟨⟨k + 1, hlt, rfl, rfl⟩, ?_⟩)
  show n - (nI (k + 1)).toNatClampNeg < n - (nI k).toNatClampNeg
  rw [nI_clamp (by omega), nI_clamp (by omega)]
  omega
def m31 (h : Int64) (x : Int32) : Int64 := 31 * h + x.toInt64
noncomputable def csd (d : Dst) (h : Int64) : Nat → Int64
  | 0 => h
  | k + 1 => m31 (m31 (csd d h k) (nI (FF d (amt d) k))) (nI (FF d (amt d) k) - nI (FP d (amt d) k))
noncomputable def csu (d : Dst) (h : Int64) : Nat → Int64
  | 0 => h
  | k + 1 => m31 (m31 (m31 (m31 (m31 (csu d h k) (nI (ask d k))) (nI (amt d k))) (nI (d (154 + k)))) (nI (d (190 + k)))) (nI (d (202 + k)))
def csa (d : Dst) (h : Int64) : Nat → Int64
  | 0 => h
  | k + 1 => m31 (csa d h k) (nI (d (5 + k)))
noncomputable def csum (d : Dst) : Int64 := m31 (csa d (csu d (csd d (m31 (m31 (m31 53 (nI (d 0))) (nI (d 1))) (nI (d 2))) (d 1)) (d 2)) 7) (turnC d)
section C7
variable {T : Nat} {σ ρ : Mem} {d : Dst} {b : Nat → Nat} {ds : Nat → Dst} {n : Nat} {t : Nat → Nat}
theorem P_checksum (hS : IS T d b ds n t) (hT : T + 48 ≤ 30000) (hX : WX σ d b ds n t) (hM : WM ρ d b ds n t) : AgrL (T + 48) (J_X5_checksum σ) (J_X6_checksum ρ) := by
  have g := hS.geo
  have hn := g.nu
  have hN := g.nd
  have hI := hS.1
  refine ⟨csum d, d, b, ds, n, t, hS.up (by omega) hT, ?_, ?_⟩
  · unfold J_X5_checksum
    refine C_distribute hI hX.1 (fun τ1 hf1 hv1 hF1 => ?_)
    obtain ⟨f1, f2, f3, f4, -⟩ := hF1
    have hX1 := hX.fr1 (FrJ.of_fl (j := 1) hf1)
    rw [hv1.tm, hv1.nd, hv1.nu]
    rintro _ rfl _ rfl _ rfl _ rfl
    refine lpLM (d 1) (by omega) (csd d (m31 (m31 (m31 53 (nI (d 0))) (nI (d 1))) (nI (d 2)))) rfl (fun k I μ hk next => ?_)
    rw [hv1.nd]
    refine br_le (by omega) (by omega) (fun hle => ?_) (fun hlt => ?_)
    · have : k = d 1 := by omega
      subst this
      refine lpLM (d 2) (by omega) (csu d (csd d (m31 (m31 (m31 53 (nI (d 0))) (nI (d 1))) (nI (d 2))) (d 1))) rfl (fun k I μ hk next => ?_)
      rw [hv1.nu]
      refine br_le (by omega) (by omega) (fun hle => ?_) (fun hlt => ?_)
      · have : k = d 2 := by omega
        subst this
        refine lpL 7 (by decide) (csa d (csu d (csd d (m31 (m31 (m31 53 (nI (d 0))) (nI (d 1))) (nI (d 2))) (d 1)) (d 2))) rfl (fun k I μ hk next => ?_)
        rw [fa_lit 7]
        refine br_le (by decide) (by omega) (fun hle => ?_) (fun hlt => ?_)
        · have : k = 7 := by omega
          subst this
          exact C_userInTurn hI hv1 ⟨rfl, hX1⟩
        · rw [nI_clamp (by omega), hv1.ac hlt]
          refine ⟨vp_in_nI hlt (by decide), ?_⟩
          rintro _ rfl _ rfl
          rw [nI_1]
          exact next hlt
      · unfold J_X5_withUser
        rw [nI_clamp (by omega), f1 k hlt, f2 k hlt, hv1.u7 hlt, hv1.u10 hlt, hv1.u11 hlt]
        refine ⟨vp_in_nI (by omega) (by decide), vp_in_nI (by omega) (by decide), ?_⟩
        rintro _ rfl
        refine ⟨vp_in_nI (by omega) (by decide), ?_⟩
        rintro _ rfl _ rfl _ rfl
        have b11 := (g.ug hlt).2.2.2.2.2.2.2.2.2
        have nx := next hlt
        rw [fa_lit 0]
        refine br_eq (by omega) (by omega) (fun q => ?_) (fun q => ?_)
        · rintro _ rfl
          rw [nI_1]
          have e : csu d (csd d (m31 (m31 (m31 53 (nI (d 0))) (nI (d 1))) (nI (d 2))) (d 1)) (k + 1) = m31 (m31 (m31 (m31 (m31 (csu d (csd d (m31 (m31 (m31 53 (nI (d 0))) (nI (d 1))) (nI (d 2))) (d 1)) k) (nI (ask d k))) (nI (amt d k))) (nI (d (154 + k)))) (nI (d (190 + k)))) (nI (d (202 + k))) := rfl
          rw [e, q] at nx
          exact nx
        · rintro _ rfl
          rw [nI_1]
          have e : csu d (csd d (m31 (m31 (m31 53 (nI (d 0))) (nI (d 1))) (nI (d 2))) (d 1)) (k + 1) = m31 (m31 (m31 (m31 (m31 (csu d (csd d (m31 (m31 (m31 53 (nI (d 0))) (nI (d 1))) (nI (d 2))) (d 1)) k) (nI (ask d k))) (nI (amt d k))) (nI (d (154 + k)))) (nI (d (190 + k)))) (nI (d (202 + k))) := rfl
          rw [e, show d (202 + k) = 1 by omega] at nx
          exact nx
    · unfold J_X1_lostIn
      rw [nI_clamp (by omega), f3 k hlt, f4 k hlt]
      refine ⟨vp_in_nI (by omega) (by decide), ?_⟩
      rintro _ rfl
      refine ⟨vp_in_nI (by omega) (by decide), vp_in_nI (by omega) (by decide), ?_⟩
      rintro _ rfl _ rfl
      rw [nI_1]
      exact next hlt
  · unfold J_X6_checksum
    refine R_distributes hI hM.1 (fun τ1 hf1 h6 h7 h8 h9 => ?_)
    have hv1 : RepM τ1 d := hM.1.row (hf1 _ (by decide) (by decide) (by decide) (by decide))
    have hM1 := hM.fr (FrM.dist hf1) hv1
    unfold J_X6_more
    dsimp only
    rw [hv1 0 (by decide), hv1 1 (by decide), hv1 2 (by decide)]
    refine lpLM (d 1) (by omega) (csd d (m31 (m31 (m31 53 (nI (d 0))) (nI (d 1))) (nI (d 2)))) rfl (fun k I μ hk next => ?_)
    rw [hv1 1 (by decide)]
    refine br_le (by omega) (by omega) (fun hle => ?_) (fun hlt => ?_)
    · have : k = d 1 := by omega
      subst this
      refine lpLM (d 2) (by omega) (csu d (csd d (m31 (m31 (m31 53 (nI (d 0))) (nI (d 1))) (nI (d 2))) (d 1))) rfl (fun k I μ hk next => ?_)
      rw [hv1 2 (by decide)]
      refine br_le (by omega) (by omega) (fun hle => ?_) (fun hlt => ?_)
      · have : k = d 2 := by omega
        subst this
        refine lpLM 7 (by decide) (csa d (csu d (csd d (m31 (m31 (m31 53 (nI (d 0))) (nI (d 1))) (nI (d 2))) (d 1)) (d 2))) rfl (fun k I μ hk next => ?_)
        rw [fa_lit 7]
        refine br_le (by decide) (by omega) (fun hle => ?_) (fun hlt => ?_)
        · have : k = 7 := by omega
          subst this
          exact R_turn hI hv1 ⟨rfl, hM1⟩
        · rw [fa_lit 5, nI_add, nI_clamp (by omega), hv1 (5 + k) (by omega)]
          refine ⟨vp_in_nI (by omega) (by decide), ?_⟩
          rintro _ rfl
          rw [nI_1]
          exact next hlt
      · rw [fa_lit 154, fa_lit 190, fa_lit 202, nI_add, nI_add, nI_add, nI_clamp (by omega), nI_clamp (by omega), nI_clamp (by omega), nI_clamp (by omega), h6 k hlt, h7 k hlt, hv1 (154 + k) (by omega), hv1 (190 + k) (by omega), hv1 (202 + k) (by omega)]
        refine ⟨vp_in_nI (by omega) (by decide), vp_in_nI (by omega) (by decide), vp_in_nI (by omega) (by decide), vp_in_nI (by omega) (by decide), vp_in_nI (by omega) (by decide), ?_⟩
        rintro _ rfl
        rw [nI_1]
        exact next hlt
    · rw [nI_clamp (by omega), h8 k hlt, h9 k hlt]
      refine ⟨vp_in_nI (by omega) (by decide), vp_in_nI (by omega) (by decide), vp_in_nI (by omega) (by decide), ?_⟩
      rintro _ rfl
      rw [nI_1]
      exact next hlt
end C7
