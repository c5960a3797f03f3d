/-! PART 21: the whole of what class and reference keep; arguments in their ranges; how a pair of calls agrees -/
def Rng (lo hi : Nat) (x : Int32) : Prop := ∃ v : Nat, lo ≤ v ∧ v < hi ∧ x = nI v
theorem dI_toInt {n : Nat} (h : n < 2 ^ 30) : (dI n).toInt = (n : Int) - 1 := by
  cases n with
  | zero => rw [dI_0]; decide
  | succ n => rw [dI_succ, nI_toInt (by omega)]; omega
theorem rng_of {lo hi : Nat} {x : Int32} (hlo : lo < 2 ^ 30) (hhi : hi < 2 ^ 30) (h1 : ¬ x < nI lo) (h2 : ¬ dI hi < x) : Rng lo hi x := by
  rw [Int32.lt_iff_toInt_lt, nI_toInt (by omega)] at h1
  rw [Int32.lt_iff_toInt_lt, dI_toInt hhi] at h2
  have h3 : ¬ x < 0 := by
    rw [Int32.lt_iff_toInt_lt]
    have : (0 : Int32).toInt = 0 := by decide
    omega
  obtain ⟨v, hv, rfl⟩ := nI_of h3
  rw [nI_toInt hv] at h1 h2
  exact ⟨v, by omega, by omega, rfl⟩
theorem rng_to {lo hi : Nat} {x : Int32} (hhi : hi < 2 ^ 30) (h : Rng lo hi x) : ¬ x < nI lo ∧ ¬ dI hi < x := by
  obtain ⟨v, h1, h2, rfl⟩ := h
  constructor
  · rw [nI_ltI (by omega) (by omega)]
    omega
  · rw [Int32.lt_iff_toInt_lt, dI_toInt hhi, nI_toInt (by omega)]
    omega
section YZ
variable {A B : Prop}
theorem y1 (a : A) : (¬ (1 : Int32) = 0 → A) ∧ ((1 : Int32) = 0 → B) := ⟨fun _ => a, fun q => absurd q (by decide)⟩
theorem y0 (b : B) : (¬ (0 : Int32) = 0 → A) ∧ ((0 : Int32) = 0 → B) := ⟨fun q => absurd rfl q, fun _ => b⟩
theorem z0 (a : A) : ((0 : Int32) = 0 → A) ∧ (¬ (0 : Int32) = 0 → B) := ⟨fun _ => a, fun q => absurd rfl q⟩
theorem z1 (b : B) : ((1 : Int32) = 0 → A) ∧ (¬ (1 : Int32) = 0 → B) := ⟨fun q => absurd q (by decide), fun _ => b⟩
theorem i1 {c : Prop} (h : c) (a : A) : (c → A) ∧ (¬ c → B) := ⟨fun _ => a, fun q => absurd h q⟩
theorem i0 {c : Prop} (h : ¬ c) (b : B) : (c → A) ∧ (¬ c → B) := ⟨fun q => absurd q h, fun _ => b⟩
theorem k1 {c : Prop} (h : ¬ c) (a : A) : (¬ c → A) ∧ (c → B) := ⟨fun _ => a, fun q => absurd q h⟩
theorem k0 {c : Prop} (h : c) (b : B) : (¬ c → A) ∧ (c → B) := ⟨fun q => absurd h q, fun _ => b⟩
end YZ
-- ranges of constants, in the class and in the reference
theorem C_in_t {lo hi : Nat} {x : Int32} {τ : Mem} {Q : Int32 → Mem → Prop} (hhi : hi + 1 < 2 ^ 30) (h : Rng lo (hi + 1) x) (q : Q 1 τ) : J_X5_isWithin x (nI lo) (nI hi) τ Q := by
  obtain ⟨a, b⟩ := rng_to hhi h
  rw [dI_succ] at b
  exact ⟨fun z => absurd z a, fun _ => ⟨fun z => absurd z b, fun _ => q⟩⟩
theorem C_in_f {lo hi : Nat} {x : Int32} {τ : Mem} {Q : Int32 → Mem → Prop} (hlo : lo < 2 ^ 30) (hhi : hi + 1 < 2 ^ 30) (h : ¬ Rng lo (hi + 1) x) (q : Q 0 τ) : J_X5_isWithin x (nI lo) (nI hi) τ Q := by
  refine ⟨fun _ => q, fun a => ⟨fun _ => q, fun b => absurd (rng_of hlo hhi a ?_) h⟩⟩
  rw [dI_succ]
  exact b
theorem R_in_t {lo hi : Nat} {x : Int32} {τ : Mem} {Q : Int32 → Mem → Prop} (hhi : hi + 1 < 2 ^ 30) (h : Rng lo (hi + 1) x) (q : Q 1 τ) : J_X6_in x (nI lo) (nI hi) τ Q := C_in_t hhi h q
theorem R_in_f {lo hi : Nat} {x : Int32} {τ : Mem} {Q : Int32 → Mem → Prop} (hlo : lo < 2 ^ 30) (hhi : hi + 1 < 2 ^ 30) (h : ¬ Rng lo (hi + 1) x) (q : Q 0 τ) : J_X6_in x (nI lo) (nI hi) τ Q := C_in_f hlo hhi h q
theorem R_inD_t {lo hi : Nat} {x : Int32} {τ : Mem} {Q : Int32 → Mem → Prop} (hhi : hi < 2 ^ 30) (h : Rng lo hi x) (q : Q 1 τ) : J_X6_in x (nI lo) (dI hi) τ Q := by
  obtain ⟨a, b⟩ := rng_to hhi h
  exact ⟨fun z => absurd z a, fun _ => ⟨fun z => absurd z b, fun _ => q⟩⟩
theorem R_inD_f {lo hi : Nat} {x : Int32} {τ : Mem} {Q : Int32 → Mem → Prop} (hlo : lo < 2 ^ 30) (hhi : hi < 2 ^ 30) (h : ¬ Rng lo hi x) (q : Q 0 τ) : J_X6_in x (nI lo) (dI hi) τ Q := ⟨fun _ => q, fun a => ⟨fun _ => q, fun b => absurd (rng_of hlo hhi a b) h⟩⟩
section US
variable {d : Dst} {τ : Mem} {j : Nat} {x : Int32} {Q : Int32 → Mem → Prop}
theorem C_usr_t (g : Geo d) (hv : RepX τ j d) (h : Rng 0 (d 2) x) (q : Q 1 τ) : J_X2_hasUser j x τ Q := by
  have := g.nu
  obtain ⟨v, h1, h2, rfl⟩ := h
  unfold J_X2_hasUser
  rw [hv.nu]
  exact ⟨fun z => absurd z (nI_pos (by omega)), fun _ => ⟨fun z => by rw [nI_leI (by omega) (by omega)] at z; omega, fun _ => q⟩⟩
theorem C_usr_f (g : Geo d) (hv : RepX τ j d) (h : ¬ Rng 0 (d 2) x) (q : Q 0 τ) : J_X2_hasUser j x τ Q := by
  have := g.nu
  unfold J_X2_hasUser
  rw [hv.nu]
  refine ⟨fun _ => q, fun a => ⟨fun _ => q, fun b => ?_⟩⟩
  obtain ⟨v, hv2, rfl⟩ := nI_of a
  rw [nI_leI (by omega) (by omega)] at b
  exact absurd ⟨v, Nat.zero_le _, by omega, rfl⟩ h
theorem C_dit_t (g : Geo d) (hv : RepX τ j d) (h : Rng 0 (d 1) x) (q : Q 1 τ) : J_X2_hasDitch j x τ Q := by
  have := g.nd
  obtain ⟨v, h1, h2, rfl⟩ := h
  unfold J_X2_hasDitch
  rw [hv.nd]
  exact ⟨fun z => absurd z (nI_pos (by omega)), fun _ => ⟨fun z => by rw [nI_leI (by omega) (by omega)] at z; omega, fun _ => q⟩⟩
theorem C_dit_f (g : Geo d) (hv : RepX τ j d) (h : ¬ Rng 0 (d 1) x) (q : Q 0 τ) : J_X2_hasDitch j x τ Q := by
  have := g.nd
  unfold J_X2_hasDitch
  rw [hv.nd]
  refine ⟨fun _ => q, fun a => ⟨fun _ => q, fun b => ?_⟩⟩
  obtain ⟨v, hv2, rfl⟩ := nI_of a
  rw [nI_leI (by omega) (by omega)] at b
  exact absurd ⟨v, Nat.zero_le _, by omega, rfl⟩ h
theorem R_usr_t (g : Geo d) (hv : RepM τ d) (h : Rng 0 (d 2) x) (q : Q 1 τ) : J_X6_isUser x τ Q := by
  have := g.nu
  unfold J_X6_isUser
  rw [hv 2 (by omega)]
  exact R_inD_t (lo := 0) (by omega) h ⟨Or.inr rfl, q⟩
theorem R_usr_f (g : Geo d) (hv : RepM τ d) (h : ¬ Rng 0 (d 2) x) (q : Q 0 τ) : J_X6_isUser x τ Q := by
  have := g.nu
  unfold J_X6_isUser
  rw [hv 2 (by omega)]
  exact R_inD_f (lo := 0) (by omega) (by omega) h ⟨Or.inl rfl, q⟩
theorem R_dit_t (g : Geo d) (hv : RepM τ d) (h : Rng 0 (d 1) x) (q : Q 1 τ) : J_X6_isDitch x τ Q := by
  have := g.nd
  unfold J_X6_isDitch
  rw [hv 1 (by omega)]
  exact R_inD_t (lo := 0) (by omega) h ⟨Or.inr rfl, q⟩
theorem R_dit_f (g : Geo d) (hv : RepM τ d) (h : ¬ Rng 0 (d 1) x) (q : Q 0 τ) : J_X6_isDitch x τ Q := by
  have := g.nd
  unfold J_X6_isDitch
  rw [hv 1 (by omega)]
  exact R_inD_f (lo := 0) (by omega) (by omega) h ⟨Or.inl rfl, q⟩
theorem C_gl_t {y : Int32} (h1 : Rng 1 201 x) (h2 : Rng 0 51 y) (q : Q 1 τ) : J_X5_areGateAndLoss x y τ Q := C_in_t (lo := 1) (hi := 200) (by decide) h1 (z1 (C_in_t (lo := 0) (hi := 50) (by decide) h2 (z1 q)))
theorem C_gl_f {y : Int32} (h : ¬ (Rng 1 201 x ∧ Rng 0 51 y)) (q : Q 0 τ) : J_X5_areGateAndLoss x y τ Q := by
  by_cases h1 : Rng 1 201 x
  · exact C_in_t (lo := 1) (hi := 200) (by decide) h1 (z1 (C_in_f (lo := 0) (hi := 50) (by decide) (by decide) (fun z => h ⟨h1, z⟩) (z0 q)))
  · exact C_in_f (lo := 1) (hi := 200) (by decide) (by decide) h1 (z0 q)
theorem R_gl_t {y : Int32} (h1 : Rng 1 201 x) (h2 : Rng 0 51 y) (q : Q 1 τ) : J_X6_isGate x y τ Q := R_in_t (lo := 1) (hi := 200) (by decide) h1 (z1 (R_in_t (lo := 0) (hi := 50) (by decide) h2 (z1 q)))
theorem R_gl_f {y : Int32} (h : ¬ (Rng 1 201 x ∧ Rng 0 51 y)) (q : Q 0 τ) : J_X6_isGate x y τ Q := by
  by_cases h1 : Rng 1 201 x
  · exact R_in_t (lo := 1) (hi := 200) (by decide) h1 (z1 (R_in_f (lo := 0) (hi := 50) (by decide) (by decide) (fun z => h ⟨h1, z⟩) (z0 q)))
  · exact R_in_f (lo := 1) (hi := 200) (by decide) (by decide) h1 (z0 q)
end US
-- the whole: the district, the slots, the text
def IS (T : Nat) (d : Dst) (b : Nat → Nat) (ds : Nat → Dst) (n : Nat) (t : Nat → Nat) : Prop := Inv T d ∧ (∀ s, s < 2 → b s ≤ 1 ∧ (b s = 1 → Inv T (ds s))) ∧ n ≤ 100 ∧ ∀ i, i < n → t i ≤ 127
def WX (σ : Mem) (d : Dst) (b : Nat → Nat) (ds : Nat → Dst) (n : Nat) (t : Nat → Nat) : Prop := RepX σ 0 d ∧ (∀ s, s < 2 → σ (2, 0, 0) s = nI (b s) ∧ (b s = 1 → RepX σ (2 + s) (ds s))) ∧ σ (5, 0, 0) 0 = nI n ∧ ∀ i, i < n → σ (6, 0, 0) i = nI (t i)
def WM (ρ : Mem) (d : Dst) (b : Nat → Nat) (ds : Nat → Dst) (n : Nat) (t : Nat → Nat) : Prop := RepM ρ d ∧ (∀ s, s < 2 → ρ (4, 0, 0) s = nI (b s) ∧ (b s = 1 → ∀ k, k < 214 → ρ (3, 0, 0) (214 * s + k) = nI (ds s k))) ∧ ρ (0, 0, 0) 5 = nI n ∧ ∀ i, i < n → ρ (5, 0, 0) i = nI (t i)
def Agr (T : Nat) (F G : (Int32 → Mem → Prop) → Prop) : Prop := ∃ (r : Int32) (d : Dst) (b : Nat → Nat) (ds : Nat → Dst) (n : Nat) (t : Nat → Nat), IS T d b ds n t ∧ F (fun r' σ' => r' = r ∧ WX σ' d b ds n t) ∧ G (fun r' ρ' => r' = r ∧ WM ρ' d b ds n t)
def AgrL (T : Nat) (F G : (Int64 → Mem → Prop) → Prop) : Prop := ∃ (r : Int64) (d : Dst) (b : Nat → Nat) (ds : Nat → Dst) (n : Nat) (t : Nat → Nat), IS T d b ds n t ∧ F (fun r' σ' => r' = r ∧ WX σ' d b ds n t) ∧ G (fun r' ρ' => r' = r ∧ WM ρ' d b ds n t)
section WW
variable {T : Nat} {σ σ' ρ ρ' : Mem} {d d' : Dst} {b : Nat → Nat} {ds : Nat → Dst} {n : Nat} {t : Nat → Nat}
theorem IS.geo (h : IS T d b ds n t) : Geo d := h.1.geo
theorem IS.up {T' : Nat} (h : IS T d b ds n t) (h1 : T ≤ T') (h2 : T' ≤ 30000) : IS T' d b ds n t := ⟨h.1.up h1 h2, fun s hs => ⟨(h.2.1 s hs).1, fun q => ((h.2.1 s hs).2 q).up h1 h2⟩, h.2.2⟩
theorem IS.with {T' : Nat} (h : IS T d b ds n t) (h1 : T ≤ T') (hi : Inv T' d') : IS T' d' b ds n t := ⟨hi, fun s hs => ⟨(h.2.1 s hs).1, fun q => ((h.2.1 s hs).2 q).up h1 hi.cnt.2.1⟩, h.2.2⟩
/-- the class: only the flow's objects, and the trial state, have changed -/
theorem WX.fr1 (h : WX σ d b ds n t) (e : FrJ 1 σ σ') : WX σ' d b ds n t := by
  obtain ⟨h1, h2, h3, h4⟩ := h
  refine ⟨h1.row (fun o a1 a2 a3 => e o (by omega) (by omega) (by omega) (by omega)), fun s hs => ⟨?_, fun q => ((h2 s hs).2 q).row (fun o a1 a2 a3 => e o (by omega) (by omega) (by omega) (by omega))⟩, ?_, fun i hi => ?_⟩
  · rw [e _ (by decide) (by decide) (by decide) (by decide)]
    exact (h2 s hs).1
  · rw [e _ (by decide) (by decide) (by decide) (by decide)]
    exact h3
  · rw [e _ (by decide) (by decide) (by decide) (by decide)]
    exact h4 i hi
/-- the class: the present state is another -/
theorem WX.fr0 (h : WX σ d b ds n t) (e : FrJ 0 σ σ') (hv : RepX σ' 0 d') : WX σ' d' b ds n t := by
  obtain ⟨h1, h2, h3, h4⟩ := h
  refine ⟨hv, fun s hs => ⟨?_, fun q => ((h2 s hs).2 q).row (fun o a1 a2 a3 => e o (by omega) (by omega) (by omega) (by omega))⟩, ?_, fun i hi => ?_⟩
  · rw [e _ (by decide) (by decide) (by decide) (by decide)]
    exact (h2 s hs).1
  · rw [e _ (by decide) (by decide) (by decide) (by decide)]
    exact h3
  · rw [e _ (by decide) (by decide) (by decide) (by decide)]
    exact h4 i hi
theorem FrJ.of_fl {j : Nat} (h : ∀ o : Oid, o.1 ≠ 3 → o.1 ≠ 4 → o.1 ≠ 15 → σ' o = σ o) : FrJ j σ σ' := fun o a1 a2 a3 _ => h o a1 a2 a3
/-- the reference: text, and slots, are as they were -/
def FrM (ρ ρ' : Mem) : Prop := (∀ o : Oid, o.1 = 3 ∨ o.1 = 4 ∨ o.1 = 5 → ρ' o = ρ o) ∧ ρ' (0, 0, 0) 5 = ρ (0, 0, 0) 5
theorem FrM.rf : FrM ρ ρ := ⟨fun _ _ => rfl, rfl⟩
theorem FrM.tr {ρ'' : Mem} (h : FrM ρ ρ') (h' : FrM ρ' ρ'') : FrM ρ ρ'' := ⟨fun o q => (h'.1 o q).trans (h.1 o q), h'.2.trans h.2⟩
theorem FrM.of (h : ∀ o : Oid, o.1 ≠ 1 → o.1 ≠ 2 → o.1 ≠ 6 → o.1 ≠ 7 → o.1 ≠ 8 → o.1 ≠ 9 → o.1 ≠ 10 → ρ' o = ρ o) : FrM ρ ρ' := ⟨fun o q => h o (by omega) (by omega) (by omega) (by omega) (by omega) (by omega) (by omega), by rw [h _ (by decide) (by decide) (by decide) (by decide) (by decide) (by decide) (by decide)]⟩
theorem FrM.mp (h : FrM ρ ρ') {o : Oid} (ho : o.1 = 1 ∨ o.1 = 2 ∨ 6 ≤ o.1) (k : Nat) (x : Int32) : FrM ρ (mup ρ' o k x) := by
  refine ⟨fun q hq => ?_, ?_⟩
  · rw [mup_ne _ _ _ (fun z => by rw [z] at hq; omega)]
    exact h.1 q hq
  · rw [mup_ne _ _ _ (fun z => by rw [← z] at ho; revert ho; decide)]
    exact h.2
theorem WM.fr (h : WM ρ d b ds n t) (e : FrM ρ ρ') (hv : RepM ρ' d') : WM ρ' d' b ds n t := by
  obtain ⟨h1, h2, h3, h4⟩ := h
  refine ⟨hv, fun s hs => ⟨?_, fun q k hk => ?_⟩, ?_, fun i hi => ?_⟩
  · rw [e.1 _ (by decide)]
    exact (h2 s hs).1
  · rw [e.1 _ (by decide)]
    exact (h2 s hs).2 q k hk
  · rw [e.2]
    exact h3
  · rw [e.1 _ (by decide)]
    exact h4 i hi
/-- nothing that counts has changed -/
theorem Agr.same {F G : (Int32 → Mem → Prop) → Prop} (hS : IS T d b ds n t) (hT : T + 48 ≤ 30000) (r : Int32) (f : F (fun r' σ' => r' = r ∧ WX σ' d b ds n t)) (g : G (fun r' ρ' => r' = r ∧ WM ρ' d b ds n t)) : Agr (T + 48) F G := ⟨r, d, b, ds, n, t, hS.up (by omega) hT, f, g⟩
theorem Agr.to {F G : (Int32 → Mem → Prop) → Prop} (hS : IS T d b ds n t) (d' : Dst) (hi : Inv (T + 48) d') (r : Int32) (f : F (fun r' σ' => r' = r ∧ WX σ' d' b ds n t)) (g : G (fun r' ρ' => r' = r ∧ WM ρ' d' b ds n t)) : Agr (T + 48) F G := ⟨r, d', b, ds, n, t, hS.with (by omega) hi, f, g⟩
end WW
