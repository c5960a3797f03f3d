/-! PART 21: arguments in their ranges -/
def Rng (lo hi : Nat) (x : Int32) : Prop := ∃ v : Nat, lo ≤ v ∧ v < hi ∧ x = nI v
theorem dI_toInt {n : Nat} (h : n < 2 ^ 30) : (dI n).toInt = (n : Int) - 1 := by
  cases n with
  | zero => rw [dI_0]; decide
  | succ n => rw [dI_succ, nI_toInt (by omega)]; omega
theorem rng_of {lo hi : Nat} {x : Int32} (hlo : lo < 2 ^ 30) (hhi : hi < 2 ^ 30) (h1 : ¬ x < nI lo) (h2 : ¬ dI hi < x) : Rng lo hi x := by
  rw [Int32.lt_iff_toInt_lt, nI_toInt (by omega)] at h1
  rw [Int32.lt_iff_toInt_lt, dI_toInt hhi] at h2
  have h3 : ¬ x < 0 := by
    rw [Int32.lt_iff_toInt_lt]
    have : (0 : Int32).toInt = 0 := by decide
    omega
  obtain ⟨v, hv, rfl⟩ := nI_of h3
  rw [nI_toInt hv] at h1 h2
  exact ⟨v, by omega, by omega, rfl⟩
theorem rng_to {lo hi : Nat} {x : Int32} (hhi : hi < 2 ^ 30) (h : Rng lo hi x) : ¬ x < nI lo ∧ ¬ dI hi < x := by
  obtain ⟨v, h1, h2, rfl⟩ := h
  constructor
  · rw [nI_ltI (by omega) (by omega)]
    omega
  · rw [Int32.lt_iff_toInt_lt, dI_toInt hhi, nI_toInt (by omega)]
    omega
section YZ
variable {A B : Prop}
theorem y1 (a : A) : (¬ (1 : Int32) = 0 → A) ∧ ((1 : Int32) = 0 → B) := ⟨fun _ => a, fun q => absurd q (by decide)⟩
theorem y0 (b : B) : (¬ (0 : Int32) = 0 → A) ∧ ((0 : Int32) = 0 → B) := ⟨fun q => absurd rfl q, fun _ => b⟩
theorem z0 (a : A) : ((0 : Int32) = 0 → A) ∧ (¬ (0 : Int32) = 0 → B) := ⟨fun _ => a, fun q => absurd rfl q⟩
theorem z1 (b : B) : ((1 : Int32) = 0 → A) ∧ (¬ (1 : Int32) = 0 → B) := ⟨fun q => absurd q (by decide), fun _ => b⟩
theorem i1 {c : Prop} (h : c) (a : A) : (c → A) ∧ (¬ c → B) := ⟨fun _ => a, fun q => absurd h q⟩
theorem i0 {c : Prop} (h : ¬ c) (b : B) : (c → A) ∧ (¬ c → B) := ⟨fun q => absurd q h, fun _ => b⟩
theorem k1 {c : Prop} (h : ¬ c) (a : A) : (¬ c → A) ∧ (c → B) := ⟨fun _ => a, fun q => absurd q h⟩
theorem k0 {c : Prop} (h : c) (b : B) : (¬ c → A) ∧ (c → B) := ⟨fun q => absurd h q, fun _ => b⟩
end YZ
-- ranges of constants, in the class and in the reference
theorem C_in_t {lo hi : Nat} {x : Int32} {τ : Mem} {Q : Int32 → Mem → Prop} (hhi : hi + 1 < 2 ^ 30) (h : Rng lo (hi + 1) x) (q : Q 1 τ) : J_X5_isWithin x (nI lo) (nI hi) τ Q := by
  obtain ⟨a, b⟩ := rng_to hhi h
  rw [dI_succ] at b
  exact ⟨fun z => absurd z a, fun _ => ⟨fun z => absurd z b, fun _ => q⟩⟩
theorem C_in_f {lo hi : Nat} {x : Int32} {τ : Mem} {Q : Int32 → Mem → Prop} (hlo : lo < 2 ^ 30) (hhi : hi + 1 < 2 ^ 30) (h : ¬ Rng lo (hi + 1) x) (q : Q 0 τ) : J_X5_isWithin x (nI lo) (nI hi) τ Q := by
  refine ⟨fun _ => q, fun a => ⟨fun _ => q, fun b => absurd (rng_of hlo hhi a ?_) h⟩⟩
  rw [dI_succ]
  exact b
section US
variable {d : Dst} {τ : Mem} {j : Nat} {x : Int32} {Q : Int32 → Mem → Prop}
theorem C_usr_t (g : Geo d) (hv : RepX τ j d) (h : Rng 0 (d 2) x) (q : Q 1 τ) : J_X2_hasUser j x τ Q := by
  have := g.nu
  obtain ⟨v, h1, h2, rfl⟩ := h
  unfold J_X2_hasUser
  rw [hv.nu]
  exact ⟨fun z => absurd z (nI_pos (by omega)), fun _ => ⟨fun z => by rw [nI_leI (by omega) (by omega)] at z; omega, fun _ => q⟩⟩
theorem C_usr_f (g : Geo d) (hv : RepX τ j d) (h : ¬ Rng 0 (d 2) x) (q : Q 0 τ) : J_X2_hasUser j x τ Q := by
  have := g.nu
  unfold J_X2_hasUser
  rw [hv.nu]
  refine ⟨fun _ => q, fun a => ⟨fun _ => q, fun b => ?_⟩⟩
  obtain ⟨v, hv2, rfl⟩ := nI_of a
  rw [nI_leI (by omega) (by omega)] at b
  exact absurd ⟨v, Nat.zero_le _, by omega, rfl⟩ h
theorem C_dit_t (g : Geo d) (hv : RepX τ j d) (h : Rng 0 (d 1) x) (q : Q 1 τ) : J_X2_hasDitch j x τ Q := by
  have := g.nd
  obtain ⟨v, h1, h2, rfl⟩ := h
  unfold J_X2_hasDitch
  rw [hv.nd]
  exact ⟨fun z => absurd z (nI_pos (by omega)), fun _ => ⟨fun z => by rw [nI_leI (by omega) (by omega)] at z; omega, fun _ => q⟩⟩
theorem C_dit_f (g : Geo d) (hv : RepX τ j d) (h : ¬ Rng 0 (d 1) x) (q : Q 0 τ) : J_X2_hasDitch j x τ Q := by
  have := g.nd
  unfold J_X2_hasDitch
  rw [hv.nd]
  refine ⟨fun _ => q, fun a => ⟨fun _ => q, fun b => ?_⟩⟩
  obtain ⟨v, hv2, rfl⟩ := nI_of a
  rw [nI_leI (by omega) (by omega)] at b
  exact absurd ⟨v, Nat.zero_le _, by omega, rfl⟩ h
theorem C_gl_t {y : Int32} (h1 : Rng 1 201 x) (h2 : Rng 0 51 y) (q : Q 1 τ) : J_X5_areGateAndLoss x y τ Q := C_in_t (lo := 1) (hi := 200) (by decide) h1 (z1 (C_in_t (lo := 0) (hi := 50) (by decide) h2 (z1 q)))
theorem C_gl_f {y : Int32} (h : ¬ (Rng 1 201 x ∧ Rng 0 51 y)) (q : Q 0 τ) : J_X5_areGateAndLoss x y τ Q := by
  by_cases h1 : Rng 1 201 x
  · exact C_in_t (lo := 1) (hi := 200) (by decide) h1 (z1 (C_in_f (lo := 0) (hi := 50) (by decide) (by decide) (fun z => h ⟨h1, z⟩) (z0 q)))
  · exact C_in_f (lo := 1) (hi := 200) (by decide) (by decide) h1 (z0 q)
end US
section WW
variable {T : Nat} {σ σ' ρ ρ' : Mem} {d d' : Dst} {b : Nat → Nat} {ds : Nat → Dst} {n : Nat} {t : Nat → Nat}
theorem FrJ.of_fl {j : Nat} (h : ∀ o : Oid, o.1 ≠ 3 → o.1 ≠ 4 → o.1 ≠ 15 → σ' o = σ o) : FrJ j σ σ' := fun o a1 a2 a3 _ => h o a1 a2 a3
end WW

theorem FrJ.own {j : Nat} {τ τ' : Mem} (h : FrJ j τ τ') {k i : Nat} (hk : 7 ≤ k ∧ k ≤ 14) (f : Nat) (x : Int32) : FrJ j τ (mup τ' (k, j, i) f x) := FrJ.mp (o := (k, j, i)) h (Or.inr (Or.inr (Or.inr ⟨hk.1, hk.2, rfl⟩))) f x
theorem cnt_self {d : Dst} {u : Nat} : ∀ {m : Nat}, u < m → cnt d u m < m
  | 0, h => absurd h (Nat.not_lt_zero _)
  | m + 1, h => by
    simp only [cnt]
    by_cases q : u = m
    · subst q
      rw [if_neg (older_irr u)]
      have := cnt_le (d := d) u u
      omega
    · have := cnt_self (d := d) (u := u) (m := m) (by omega)
      split <;> omega
