/-! PART 23: hours of the day, the supply -/
section C2
variable {T : Nat} {σ ρ : Mem} {d : Dst} {b : Nat → Nat} {ds : Nat → Dst} {n : Nat} {t : Nat → Nat}
/-- two hours of the day, one behind the other -/
def Hrs (x y : Int32) : Prop := ∃ a c : Nat, a < c ∧ c ≤ 24 ∧ x = nI a ∧ y = nI c
theorem Hrs.iff {x y : Int32} : Hrs x y ↔ Rng 0 24 x ∧ Rng 0 25 y ∧ x < y := by
  constructor
  · rintro ⟨a, c, h1, h2, rfl, rfl⟩
    exact ⟨⟨a, Nat.zero_le _, by omega, rfl⟩, ⟨c, Nat.zero_le _, by omega, rfl⟩, (nI_ltI (by omega) (by omega)).mpr h1⟩
  · rintro ⟨⟨a, -, h1, rfl⟩, ⟨c, -, h2, rfl⟩, h3⟩
    exact ⟨a, c, (nI_ltI (by omega) (by omega)).mp h3, by omega, rfl, rfl⟩
theorem C_hrs_t {x y : Int32} {τ : Mem} {Q : Int32 → Mem → Prop} (h : Hrs x y) (q : Q 1 τ) : J_X5_areHours x y τ Q := by
  obtain ⟨a, c, h1, h2, rfl, rfl⟩ := h
  unfold J_X5_areHours
  refine C_in_t (lo := 0) (hi := 23) (by decide) ⟨a, Nat.zero_le _, by omega, rfl⟩ (z1 ?_)
  rw [fa_lit 24]
  exact br_le (by omega) (by omega) (fun z => absurd z (by omega)) (fun _ => br_lt (by omega) (by omega) (fun z => absurd z (by omega)) (fun _ => q))
theorem C_hrs_f {x y : Int32} {τ : Mem} {Q : Int32 → Mem → Prop} (h : ¬ Hrs x y) (q : Q 0 τ) : J_X5_areHours x y τ Q := by
  unfold J_X5_areHours
  by_cases h1 : Rng 0 24 x
  · refine C_in_t (lo := 0) (hi := 23) (by decide) h1 (z1 ⟨fun _ => q, fun h2 => ⟨fun _ => q, fun h3 => ?_⟩⟩)
    obtain ⟨a, -, ha, rfl⟩ := h1
    have h4 : ¬ y < 0 := by
      rw [Int32.le_iff_toInt_le, nI_toInt (by omega)] at h2
      rw [Int32.lt_iff_toInt_lt]
      have : (0 : Int32).toInt = 0 := by decide
      omega
    obtain ⟨c, hc, rfl⟩ := nI_of h4
    rw [nI_leI hc (by omega)] at h2
    rw [fa_lit 24, nI_ltI (by omega) hc] at h3
    exact absurd ⟨a, c, by omega, by omega, rfl, rfl⟩ h
  · exact C_in_f (lo := 0) (hi := 23) (by decide) (by decide) h1 (z0 q)
/-- the supply of the hours from a on, k of them -/
def spd (d : Dst) (a x : Nat) : Nat → Dst
  | 0 => d
  | k + 1 => du (spd d a x k) (12 + (a + k)) x
theorem spd_ne {d : Dst} {a x i : Nat} : ∀ {k : Nat}, (i < 12 ∨ 12 + (a + k) ≤ i) → spd d a x k i = d i
  | 0, _ => rfl
  | k + 1, h => by
    show du _ _ _ i = _
    rw [du_ne _ _ (by omega)]
    exact spd_ne (by omega)
theorem spd_geo {a x : Nat} (g : Geo d) (hx : x ≤ 200) : ∀ {k : Nat}, a + k ≤ 24 → Geo (spd d a x k)
  | 0, _ => g
  | k + 1, h => (spd_geo g hx (by omega)).s12 (by omega) hx
theorem spd_cnt {a x : Nat} (c : Cnt T d) : ∀ {k : Nat}, a + k ≤ 24 → Cnt T (spd d a x k)
  | k, h => c.of (spd_ne (by omega)) (spd_ne (by omega)) (fun i hi => spd_ne (by omega)) (fun u hu => spd_ne (by omega))
theorem C_putSupply {j a c x : Nat} {τ : Mem} {Q : Mem → Prop} (g : Geo d) (hv : RepX τ j d) (hac : a < c) (hc : c ≤ 24) (hQ : ∀ τ' : Mem, (∀ o : Oid, o ≠ (11, j, 0) → τ' o = τ o) → RepX τ' j (spd d a x (c - a)) → Q τ') : J_X2_putSupply j (nI a) (nI c) (nI x) τ Q := by
  have hN := g.nd
  unfold J_X2_putSupply
  rw [if_neg (nI_pos (by omega))]
  rintro _ rfl
  refine lpMf a c rfl (by omega) (by omega) (fun k τ' => (∀ o : Oid, o ≠ (11, j, 0) → τ' o = τ o) ∧ RepX τ' j (spd d a x (k - a))) ⟨fun _ _ => rfl, by rw [Nat.sub_self]; exact hv⟩ (fun k τ2 I μ h1 h2 hP next => ?_)
  obtain ⟨hf, hr⟩ := hP
  refine br_le (by omega) (by omega) (fun q => ?_) (fun q => ?_)
  · have : k = c := by omega
    subst this
    exact hQ τ2 hf hr
  · rw [fa_lit 24]
    refine br_le (by omega) (by omega) (fun z => absurd z (by omega)) (fun z => ⟨vp_in_nI (by omega) (by decide), ?_⟩)
    rw [nI_clamp (by omega)]
    rintro _ rfl _ rfl
    rw [nI_1]
    refine next q _ ⟨fun o ho => by rw [mup_ne _ _ _ ho]; exact hf o ho, ?_⟩
    have s := hr.setS (by rw [spd_ne (by omega)]; exact hN) (i := k) (by omega) x
    have e : spd d a x (k + 1 - a) = du (spd d a x (k - a)) (12 + k) x := by
      rw [show k + 1 - a = (k - a) + 1 by omega]
      show du _ (12 + (a + (k - a))) x = _
      rw [show a + (k - a) = k by omega]
    rw [e]
    exact s
end C2
