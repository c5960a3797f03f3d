/-! PART 19: the hour that passes -/
theorem du_comm (d : Dst) {a b : Nat} (x y : Nat) (h : a ≠ b) : du (du d a x) b y = du (du d b y) a x := by
  funext k
  unfold du
  by_cases h1 : k = b
  · rw [if_pos h1]
    by_cases h2 : k = a
    · exact absurd (h2.symm.trans h1) h
    · rw [if_neg h2, if_pos h1]
  · rw [if_neg h1]
    by_cases h2 : k = a
    · rw [if_pos h2, if_pos h2]
    · rw [if_neg h2, if_neg h2, if_neg h1]
def wat (d : Dst) (u a : Nat) : Nat := a + d (154 + u)
def usd (d : Dst) (u a : Nat) : Nat := min (need d u) (wat d u a)
def lkd (d : Dst) (u a : Nat) : Nat := min (d (166 + u)) (wat d u a - usd d u a)
def us1 (d : Dst) (u a : Nat) : Dst := du (du d (154 + u) (wat d u a - usd d u a - lkd d u a)) (190 + u) (d (190 + u) + (need d u - usd d u a))
/-- a user uses its water -/
def useU (d : Dst) (u a : Nat) : Dst := du (du (du (du (du (us1 d u a) 8 (d 8 + a)) 9 (d 9 + usd d u a)) 10 (d 10 + lkd d u a)) 11 (d 11 + (need d u - usd d u a))) (202 + u) 0
theorem useU_ne {d : Dst} {u a k : Nat} (h1 : k ≠ 154 + u) (h2 : k ≠ 190 + u) (h3 : k < 8 ∨ 11 < k) (h4 : k ≠ 202 + u) : useU d u a k = d k := by
  unfold useU us1
  rw [du_ne _ _ h4, du_ne _ _ (by omega), du_ne _ _ (by omega), du_ne _ _ (by omega), du_ne _ _ (by omega), du_ne _ _ h2, du_ne _ _ h1]
def loss (d : Dst) (a : Nat → Nat) (i : Nat) : Nat := FF d a i - FP d a i
def hb0 (d : Dst) (a : Nat → Nat) : Dst := du (du d 5 (d 5 + FF d a 0)) 6 (d 6 + (sup d - FF d a 0))
def hb (d : Dst) (a : Nat → Nat) (m : Nat) : Dst := du (hb0 d a) 7 (d 7 + sm (loss d a) m)
def psU (d : Dst) (a : Nat → Nat) : Nat → Dst
  | 0 => hb d a (d 1)
  | m + 1 => useU (psU d a m) m (a m)
noncomputable def pass (d : Dst) : Dst := du (psU d (amt d) (d 2)) 0 (d 0 + 1)
def HI (T m : Nat) (d : Dst) : Prop := Geo d ∧ d 0 ≤ T ∧ T + 1 ≤ 30000 ∧ (∀ i, i < 3 → d (5 + i) ≤ 7000 * T + 2000) ∧ (∀ i, 3 ≤ i → i < 7 → d (5 + i) ≤ 7000 * T + 560 * m) ∧ ∀ u, u < d 2 → d (190 + u) ≤ 100 * T + 100
theorem HI.inv {T m : Nat} {d : Dst} (h : HI T m d) (hm : m ≤ 12) : Inv (T + 1) d := by
  obtain ⟨g, h0, hT, h3, h4, hu⟩ := h
  refine Inv.mk g ⟨by omega, hT, fun i hi => ?_, fun u q => by have := hu u q; omega⟩
  rcases Nat.lt_or_ge i 3 with q | q
  · have := h3 i q
    omega
  · have := h4 i q hi
    omega
theorem need_congr {d d' : Dst} {u : Nat} (h0 : d' 0 = d 0) (h1 : d' (118 + u) = d (118 + u)) (h2 : d' (130 + u) = d (130 + u)) (h3 : d' (106 + u) = d (106 + u)) : need d' u = need d u := by
  unfold need hr
  rw [h0, h1, h2, h3]
def H2 (T m : Nat) (d : Dst) : Prop := Geo d ∧ d 0 ≤ T ∧ T + 1 ≤ 30000 ∧ (∀ i, i < 3 → d (5 + i) ≤ 7000 * T + 2000) ∧ (∀ i, 3 ≤ i → i < 7 → d (5 + i) ≤ 7000 * T + 560 * m) ∧ (∀ u, u < m → d (190 + u) ≤ 100 * T + 100) ∧ ∀ u, m ≤ u → u < d 2 → d (190 + u) ≤ 100 * T
theorem H2.hi {T m : Nat} {d : Dst} (h : H2 T m d) : HI T m d := by
  obtain ⟨g, h0, hT, h3, h4, hu, hv⟩ := h
  refine ⟨g, h0, hT, h3, h4, fun u q => ?_⟩
  rcases Nat.lt_or_ge u m with z | z
  · exact hu u z
  · have := hv u z q
    omega
theorem useU_H2 {T m a : Nat} {d : Dst} (h : H2 T m d) (hm : m < d 2) (hac : a ≤ could d m) : H2 T (m + 1) (useU d m a) := by
  obtain ⟨g, h0, hT, h3, h4, hu, hv⟩ := h
  have gu := g.ug hm
  have g2 := g.nu
  have hn : need d m ≤ 60 := by
    have := gu.2.2.1
    unfold need
    split <;> omega
  have hus : usd d m a ≤ need d m := Nat.min_le_left _ _
  have husw : usd d m a ≤ wat d m a := Nat.min_le_right _ _
  have hlk : lkd d m a ≤ d (166 + m) := Nat.min_le_left _ _
  have hcap : d (154 + m) ≤ d (142 + m) := gu.2.2.2.2.2.2.1
  have hcp5 := gu.2.2.2.2.2.1
  have hcd : could d m = need d m + (d (142 + m) - d (154 + m)) := rfl
  have ha : a ≤ 560 := by omega
  have hw : wat d m a = a + d (154 + m) := rfl
  have hmin : usd d m a = need d m ∨ usd d m a = wat d m a := by
    unfold usd
    omega
  refine ⟨?_, ?_, hT, fun i hi => ?_, fun i h1 h2 => ?_, fun u q => ?_, fun u q1 q2 => ?_⟩
  · unfold useU us1
    have g1 := g.s154 (x := wat d m a - usd d m a - lkd d m a) hm (by omega)
    have g3 := (((((g1.sfree (k := 190 + m) (x := d (190 + m) + (need d m - usd d m a)) (by omega)).sfree (k := 8) (x := d 8 + a) (by omega)).sfree (k := 9) (x := d 9 + usd d m a) (by omega)).sfree (k := 10) (x := d 10 + lkd d m a) (by omega)).sfree (k := 11) (x := d 11 + (need d m - usd d m a)) (by omega))
    refine g3.s202 ?_ (Nat.zero_le _)
    rw [du_ne _ _ (by omega), du_ne _ _ (by omega), du_ne _ _ (by omega), du_ne _ _ (by omega), du_ne _ _ (by omega), du_ne _ _ (by omega)]
    exact hm
  · rw [useU_ne (by omega) (by omega) (by omega) (by omega)]
    exact h0
  · rw [useU_ne (by omega) (by omega) (by omega) (by omega)]
    exact h3 i hi
  · have g8 := h4 3 (by omega) (by omega)
    have g9 := h4 4 (by omega) (by omega)
    have g10 := h4 5 (by omega) (by omega)
    have g11 := h4 6 (by omega) (by omega)
    have h166 := gu.2.2.2.2.2.2.2.1
    unfold useU us1
    rw [du_ne _ _ (by omega)]
    rcases (by omega : i = 3 ∨ i = 4 ∨ i = 5 ∨ i = 6) with rfl | rfl | rfl | rfl
    · rw [du_ne _ _ (by omega), du_ne _ _ (by omega), du_ne _ _ (by omega), du_self]
      show d (5 + 3) + a ≤ _
      omega
    · rw [du_ne _ _ (by omega), du_ne _ _ (by omega), du_self]
      show d (5 + 4) + _ ≤ _
      omega
    · rw [du_ne _ _ (by omega), du_self]
      show d (5 + 5) + _ ≤ _
      omega
    · rw [du_self]
      show d (5 + 6) + _ ≤ _
      omega
  · by_cases z : u = m
    · subst z
      unfold useU us1
      rw [du_ne _ _ (by omega), du_ne _ _ (by omega), du_ne _ _ (by omega), du_ne _ _ (by omega), du_ne _ _ (by omega), du_self]
      have := hv u (Nat.le_refl _) hm
      omega
    · rw [useU_ne (by omega) (by omega) (by omega) (by omega)]
      exact hu u (by omega)
  · rw [useU_ne (by omega) (by omega) (by omega) (by omega)] at q2
    rw [useU_ne (by omega) (by omega) (by omega) (by omega)]
    exact hv u (by omega) q2
theorem hb_ne {d : Dst} {a : Nat → Nat} {m k : Nat} (h : k < 5 ∨ 7 < k) : hb d a m k = d k := by
  unfold hb hb0
  rw [du_ne _ _ (by omega), du_ne _ _ (by omega), du_ne _ _ (by omega)]
theorem psU_ne {d : Dst} {a : Nat → Nat} {k : Nat} : ∀ {m : Nat}, (∀ u, u < m → k ≠ 154 + u ∧ k ≠ 190 + u ∧ k ≠ 202 + u) → (k < 5 ∨ 11 < k) → psU d a m k = d k
  | 0, _, h2 => hb_ne (by omega)
  | m + 1, h1, h2 => by
    have h3 := h1 m (by omega)
    show useU _ m (a m) k = _
    rw [useU_ne h3.1 h3.2.1 (by omega) h3.2.2]
    exact psU_ne (fun u hu => h1 u (by omega)) h2
theorem psU_lo {d : Dst} {a : Nat → Nat} {m k : Nat} (hm : m ≤ 12) (h : k < 5 ∨ 11 < k ∧ k < 154 ∨ 166 ≤ k ∧ k < 190) : psU d a m k = d k := psU_ne (fun u hu => by omega) (by omega)
theorem psU_hi {d : Dst} {a : Nat → Nat} {m u : Nat} (hm : m ≤ u) (hu : u < 12) : psU d a m (154 + u) = d (154 + u) ∧ psU d a m (190 + u) = d (190 + u) ∧ psU d a m (202 + u) = d (202 + u) := ⟨psU_ne (fun u hu => by omega) (by omega), psU_ne (fun u hu => by omega) (by omega), psU_ne (fun u hu => by omega) (by omega)⟩
theorem ask_could {d : Dst} (u : Nat) : ask d u ≤ could d u := by
  unfold ask
  split
  · split
    · exact Nat.le_refl _
    · exact Nat.min_le_left _ _
  · exact Nat.zero_le _
theorem sm_le {f : Nat → Nat} {c : Nat} {m : Nat} (h : ∀ i, i < m → f i ≤ c) : sm f m ≤ m * c := by
  have := sm_mono (f := f) (g := fun _ => c) h
  rwa [sm_const] at this
theorem du_id (d : Dst) (k : Nat) : du d k (d k) = d := by
  funext i
  unfold du
  split
  · rename_i h; rw [h]
  · rfl
theorem du_du (d : Dst) (k x y : Nat) : du (du d k x) k y = du d k y := by
  funext i
  unfold du
  split <;> rfl
section PH
variable {T : Nat} {d : Dst} {a : Nat → Nat}
theorem hb_H2 (hI : Inv T d) (hT1 : T + 1 ≤ 30000) (hO : Ok d a) : H2 T 0 (hb d a (d 1)) := by
  have g := hI.geo
  obtain ⟨c0, cT, cA, cM⟩ := hI.cnt
  have hF0 := hO.1.2
  have hs := g.sp (hr_lt d)
  have hsd : sup d = d (12 + hr d) := rfl
  have hloss : sm (loss d a) (d 1) ≤ d 1 * 200 := sm_le (fun i hi => by
    have := hO.1.1 i hi
    have := (g.gt hi).2
    unfold loss
    omega)
  have h1 := g.nd
  have h2 := g.nu
  have g1 : Geo (hb d a (d 1)) := ((g.sfree (by omega)).sfree (by omega)).sfree (by omega)
  refine ⟨g1, ?_, hT1, fun i hi => ?_, fun i q1 q2 => ?_, fun u q => absurd q (Nat.not_lt_zero _), fun u _ q => ?_⟩
  · rw [hb_ne (by omega)]
    exact c0
  · have a0 := cA 0 (by omega)
    have a1 := cA 1 (by omega)
    have a2 := cA 2 (by omega)
    unfold hb hb0
    rcases (by omega : i = 0 ∨ i = 1 ∨ i = 2) with rfl | rfl | rfl
    · rw [du_ne _ _ (by omega), du_ne _ _ (by omega), du_self]
      show d (5 + 0) + _ ≤ _
      omega
    · rw [du_ne _ _ (by omega), du_self]
      show d (5 + 1) + _ ≤ _
      omega
    · rw [du_self]
      show d (5 + 2) + _ ≤ _
      omega
  · rw [hb_ne (by omega)]
    have := cA i q2
    omega
  · rw [hb_ne (by omega)] at q
    rw [hb_ne (by omega)]
    exact cM u q
theorem psU_H2 (hI : Inv T d) (hT1 : T + 1 ≤ 30000) (hO : Ok d a) : ∀ {m : Nat}, m ≤ d 2 → H2 T m (psU d a m)
  | 0, _ => hb_H2 hI hT1 hO
  | m + 1, h => by
    have h2 := hI.geo.nu
    have e2 : psU d a m 2 = d 2 := psU_lo (by omega) (by omega)
    refine useU_H2 (psU_H2 hI hT1 hO (by omega)) (by omega) ?_
    have e : could (psU d a m) m = could d m := by
      unfold could
      rw [need_congr (psU_lo (by omega) (by omega)) (psU_lo (by omega) (by omega)) (psU_lo (by omega) (by omega)) (psU_lo (by omega) (by omega)), psU_lo (by omega) (by omega), (psU_hi (Nat.le_refl _) (by omega)).1]
    rw [e]
    exact Nat.le_trans (hO.2 m (by omega)) (ask_could m)
theorem psU_inv (hI : Inv T d) (hT1 : T + 1 ≤ 30000) (hO : Ok d a) {m : Nat} (hm : m ≤ d 2) : Inv (T + 1) (psU d a m) := (psU_H2 hI hT1 hO hm).hi.inv (by have := hI.geo.nu; omega)
theorem pass_inv (hI : Inv T d) (hT1 : T + 1 ≤ 30000) : Inv (T + 1) (pass d) := by
  have hO := amt_ok hI.1 hI.geo.2.2.2.2.2.2.2.2
  have h := psU_inv hI hT1 hO (Nat.le_refl _)
  have h2 := hI.geo.nu
  obtain ⟨c0, cT, cA, cM⟩ := h.cnt
  have c00 := hI.cnt.1
  refine Inv.mk (h.geo.sfree (by omega)) ⟨?_, cT, fun i hi => ?_, fun u hu => ?_⟩
  · unfold pass
    rw [du_self]
    omega
  · unfold pass
    rw [du_ne _ _ (by omega)]
    exact cA i hi
  · unfold pass at hu ⊢
    rw [du_ne _ _ (by omega)] at hu ⊢
    exact cM u hu
end PH
