/-! PART 23: calls: setDitch, setField, setPond, setSupply -/
section C2
variable {T : Nat} {σ ρ : Mem} {d : Dst} {b : Nat → Nat} {ds : Nat → Dst} {n : Nat} {t : Nat → Nat}
theorem P_setDitch (hS : IS T d b ds n t) (hT : T + 48 ≤ 30000) (hX : WX σ d b ds n t) (hM : WM ρ d b ds n t) (x y z : Int32) : Agr (T + 48) (J_X5_setDitch x y z σ) (J_X6_setDitch x y z ρ) := by
  have g := hS.geo
  have hn := g.nu
  have hN := g.nd
  by_cases h : Rng 0 (d 1) x
  · by_cases h2 : Rng 1 201 y ∧ Rng 0 51 z
    · obtain ⟨u, -, hu, rfl⟩ := id h
      obtain ⟨⟨v, hv1, hv, rfl⟩, ⟨w, -, hw, rfl⟩⟩ := id h2
      have e1 : du d (50 + u) v 1 = d 1 := du_ne _ _ (by omega)
      have g1 : Geo (du (du d (50 + u) v) (60 + u) w) := (g.s50 hu hv1 (by omega)).s60 (by rw [e1]; exact hu) (by omega)
      refine Agr.to hS (du (du d (50 + u) v) (60 + u) w) (Inv.mk g1 (((hS.1.cnt.up (by omega) hT).du hn (by omega)).du (by rw [du_ne _ _ (by omega)]; exact hn) (by omega))) (nI (d (50 + u))) ?_ ?_
      · unfold J_X5_setDitch
        refine C_dit_t g hX.1 h (y1 (C_gl_t h2.1 h2.2 (y1 ⟨vp_in_nI (by omega) (by decide), ?_⟩)))
        rw [nI_clamp (by omega), hX.1.ga hu]
        rintro _ rfl _ rfl _ rfl
        have s1 : RepX _ 0 (du d (50 + u) v) := hX.1.setD hN (f := 1) hu (by decide) v
        exact ⟨rfl, hX.fr0 ((FrJ.rf.own (by decide) _ _).own (by decide) _ _) (s1.setD (by rw [e1]; exact hN) (f := 2) (by rw [e1]; exact hu) (by decide) w)⟩
      · unfold J_X6_setDitch
        refine R_dit_t g hM.1 h (y1 (R_gl_t h2.1 h2.2 (y1 ?_)))
        rw [fa_lit 60, fa_lit 50, nI_add, nI_add, nI_clamp (by omega)]
        refine ⟨vp_in_nI (by omega) (by decide), ?_⟩
        rintro _ rfl
        refine R_puts (hM.1.du _ _) (by omega) (fun τ' e hr => ?_)
        rw [du_ne _ _ (by omega)]
        rw [du_comm _ _ _ (by omega)] at hr
        refine ⟨rfl, hM.fr ?_ hr⟩
        rw [e]
        exact (FrM.rf.m1 _ _).m1 _ _
    · refine Agr.same hS hT (-102) ?_ ?_
      · unfold J_X5_setDitch
        exact C_dit_t g hX.1 h (y1 (C_gl_f h2 (y0 ⟨rfl, hX⟩)))
      · unfold J_X6_setDitch
        exact R_dit_t g hM.1 h (y1 (R_gl_f h2 (y0 ⟨rfl, hM⟩)))
  · refine Agr.same hS hT (-101) ?_ ?_
    · unfold J_X5_setDitch
      exact C_dit_f g hX.1 h (y0 ⟨rfl, hX⟩)
    · unfold J_X6_setDitch
      exact R_dit_f g hM.1 h (y0 ⟨rfl, hM⟩)
/-- two hours of the day, one behind the other -/
def Hrs (x y : Int32) : Prop := ∃ a c : Nat, a < c ∧ c ≤ 24 ∧ x = nI a ∧ y = nI c
theorem Hrs.iff {x y : Int32} : Hrs x y ↔ Rng 0 24 x ∧ Rng 0 25 y ∧ x < y := by
  constructor
  · rintro ⟨a, c, h1, h2, rfl, rfl⟩
    exact ⟨⟨a, Nat.zero_le _, by omega, rfl⟩, ⟨c, Nat.zero_le _, by omega, rfl⟩, (nI_ltI (by omega) (by omega)).mpr h1⟩
  · rintro ⟨⟨a, -, h1, rfl⟩, ⟨c, -, h2, rfl⟩, h3⟩
    exact ⟨a, c, (nI_ltI (by omega) (by omega)).mp h3, by omega, rfl, rfl⟩
theorem C_hrs_t {x y : Int32} {τ : Mem} {Q : Int32 → Mem → Prop} (h : Hrs x y) (q : Q 1 τ) : J_X5_areHours x y τ Q := by
  obtain ⟨a, c, h1, h2, rfl, rfl⟩ := h
  unfold J_X5_areHours
  refine C_in_t (lo := 0) (hi := 23) (by decide) ⟨a, Nat.zero_le _, by omega, rfl⟩ (z1 ?_)
  rw [fa_lit 24]
  exact br_le (by omega) (by omega) (fun z => absurd z (by omega)) (fun _ => br_lt (by omega) (by omega) (fun z => absurd z (by omega)) (fun _ => q))
theorem C_hrs_f {x y : Int32} {τ : Mem} {Q : Int32 → Mem → Prop} (h : ¬ Hrs x y) (q : Q 0 τ) : J_X5_areHours x y τ Q := by
  unfold J_X5_areHours
  by_cases h1 : Rng 0 24 x
  · refine C_in_t (lo := 0) (hi := 23) (by decide) h1 (z1 ⟨fun _ => q, fun h2 => ⟨fun _ => q, fun h3 => ?_⟩⟩)
    obtain ⟨a, -, ha, rfl⟩ := h1
    have h4 : ¬ y < 0 := by
      rw [Int32.le_iff_toInt_le, nI_toInt (by omega)] at h2
      rw [Int32.lt_iff_toInt_lt]
      have : (0 : Int32).toInt = 0 := by decide
      omega
    obtain ⟨c, hc, rfl⟩ := nI_of h4
    rw [nI_leI hc (by omega)] at h2
    rw [fa_lit 24, nI_ltI (by omega) hc] at h3
    exact absurd ⟨a, c, by omega, by omega, rfl, rfl⟩ h
  · exact C_in_f (lo := 0) (hi := 23) (by decide) (by decide) h1 (z0 q)
/-- the reference asks for the hours one after the other -/
theorem R_hr2_t {a c : Nat} {τ : Mem} {Q : Int32 → Mem → Prop} (h1 : a < c) (h2 : c ≤ 24) (q : Q 1 τ) : J_X6_in (nI c) (nI a + 1) 24 τ Q := by
  rw [nI_1]
  exact R_in_t (lo := a + 1) (hi := 24) (by decide) ⟨c, h1, by omega, rfl⟩ q
theorem R_hr2_f {a : Nat} {y : Int32} {τ : Mem} {Q : Int32 → Mem → Prop} (ha : a < 24) (h : ¬ Hrs (nI a) y) (q : Q 0 τ) : J_X6_in y (nI a + 1) 24 τ Q := by
  rw [nI_1]
  refine R_in_f (lo := a + 1) (hi := 24) (by omega) (by decide) (fun ⟨c, h1, h2, e⟩ => h ⟨a, c, h1, by omega, rfl, e⟩) q
theorem P_setField (hS : IS T d b ds n t) (hT : T + 48 ≤ 30000) (hX : WX σ d b ds n t) (hM : WM ρ d b ds n t) (x y z w : Int32) : Agr (T + 48) (J_X5_setField x y z w σ) (J_X6_setField x y z w ρ) := by
  have g := hS.geo
  have hn := g.nu
  have hN := g.nd
  by_cases h : Rng 0 (d 2) x
  · by_cases h2 : Rng 0 61 y
    · by_cases h3 : Hrs z w
      · obtain ⟨u, -, hu, rfl⟩ := id h
        obtain ⟨v, -, hv, rfl⟩ := id h2
        obtain ⟨a, c, ha, hc, rfl, rfl⟩ := id h3
        have e1 : ∀ {k : Nat}, k < 3 → du d (106 + u) v k = d k := fun h => du_ne _ _ (by omega)
        have e2 : ∀ {k : Nat}, k < 3 → du (du d (106 + u) v) (118 + u) a k = d k := fun h => by rw [du_ne _ _ (by omega), du_ne _ _ (by omega)]
        have g1 : Geo (du (du (du d (106 + u) v) (118 + u) a) (130 + u) c) := ((g.s106 hu (by omega)).s118 (by rw [e1 (by decide)]; exact hu) (by omega)).s130 (by rw [e2 (by decide)]; exact hu) (by omega)
        refine Agr.to hS (du (du (du d (106 + u) v) (118 + u) a) (130 + u) c) (Inv.mk g1 ((((hS.1.cnt.up (by omega) hT).du hn (by omega)).du (by rw [e1 (by decide)]; exact hn) (by omega)).du (by rw [e2 (by decide)]; exact hn) (by omega))) (nI (d (106 + u))) ?_ ?_
        · unfold J_X5_setField
          refine C_usr_t g hX.1 h (y1 (C_in_t (lo := 0) (hi := 60) (by decide) h2 (z1 (C_hrs_t h3 (y1 ⟨vp_in_nI (by omega) (by decide), ?_⟩)))))
          rw [nI_clamp (by omega), hX.1.u3 hu]
          rintro _ rfl _ rfl _ rfl _ rfl
          have s1 : RepX _ 0 (du d (106 + u) v) := hX.1.setU (f := 3) hN hn hu (by decide) (by decide) v
          have s2 : RepX _ 0 (du (du d (106 + u) v) (118 + u) a) := s1.setU (f := 4) (by rw [e1 (by decide)]; exact hN) (by rw [e1 (by decide)]; exact hn) (by rw [e1 (by decide)]; exact hu) (by decide) (by decide) a
          exact ⟨rfl, hX.fr0 (((FrJ.rf.own (by decide) _ _).own (by decide) _ _).own (by decide) _ _) (s2.setU (f := 5) (by rw [e2 (by decide)]; exact hN) (by rw [e2 (by decide)]; exact hn) (by rw [e2 (by decide)]; exact hu) (by decide) (by decide) c)⟩
        · unfold J_X6_setField
          refine R_usr_t g hM.1 h (y1 (R_in_t (lo := 0) (hi := 60) (by decide) h2 (z1 (R_in_t (lo := 0) (hi := 23) (by decide) ⟨a, Nat.zero_le _, by omega, rfl⟩ (z1 (R_hr2_t ha hc (y1 ?_)))))))
          rw [fa_lit 118, fa_lit 130, fa_lit 106, nI_add, nI_add, nI_add, nI_clamp (by omega), nI_clamp (by omega)]
          refine ⟨vp_in_nI (by omega) (by decide), ?_⟩
          rintro _ rfl
          refine ⟨vp_in_nI (by omega) (by decide), ?_⟩
          rintro _ rfl
          refine R_puts ((hM.1.du _ _).du _ _) (by omega) (fun τ' e hr => ?_)
          rw [du_ne _ _ (by omega), du_ne _ _ (by omega)]
          rw [du_comm (a := 130 + u) (b := 106 + u) _ _ _ (by omega), du_comm (a := 118 + u) (b := 106 + u) _ _ _ (by omega)] at hr
          refine ⟨rfl, hM.fr ?_ hr⟩
          rw [e]
          exact ((FrM.rf.m1 _ _).m1 _ _).m1 _ _
      · refine Agr.same hS hT (-102) ?_ ?_
        · unfold J_X5_setField
          exact C_usr_t g hX.1 h (y1 (C_in_t (lo := 0) (hi := 60) (by decide) h2 (z1 (C_hrs_f h3 (y0 ⟨rfl, hX⟩)))))
        · unfold J_X6_setField
          refine R_usr_t g hM.1 h (y1 (R_in_t (lo := 0) (hi := 60) (by decide) h2 (z1 ?_)))
          by_cases h4 : Rng 0 24 z
          · refine R_in_t (lo := 0) (hi := 23) (by decide) h4 (z1 ?_)
            obtain ⟨a, -, ha, rfl⟩ := h4
            exact R_hr2_f ha h3 (y0 ⟨rfl, hM⟩)
          · exact R_in_f (lo := 0) (hi := 23) (by decide) (by decide) h4 (z0 ⟨rfl, hM⟩)
    · refine Agr.same hS hT (-102) ?_ ?_
      · unfold J_X5_setField
        exact C_usr_t g hX.1 h (y1 (C_in_f (lo := 0) (hi := 60) (by decide) (by decide) h2 (z0 ⟨rfl, hX⟩)))
      · unfold J_X6_setField
        exact R_usr_t g hM.1 h (y1 (R_in_f (lo := 0) (hi := 60) (by decide) (by decide) h2 (z0 ⟨rfl, hM⟩)))
  · refine Agr.same hS hT (-101) ?_ ?_
    · unfold J_X5_setField
      exact C_usr_f g hX.1 h (y0 ⟨rfl, hX⟩)
    · unfold J_X6_setField
      exact R_usr_f g hM.1 h (y0 ⟨rfl, hM⟩)
theorem P_setPond (hS : IS T d b ds n t) (hT : T + 48 ≤ 30000) (hX : WX σ d b ds n t) (hM : WM ρ d b ds n t) (x y z : Int32) : Agr (T + 48) (J_X5_setPond x y z σ) (J_X6_setPond x y z ρ) := by
  have g := hS.geo
  have hn := g.nu
  have hN := g.nd
  by_cases h : Rng 0 (d 2) x
  · by_cases h2 : Rng 0 501 y
    · by_cases h3 : Rng 0 21 z
      · obtain ⟨u, -, hu, rfl⟩ := id h
        obtain ⟨v, -, hv, rfl⟩ := id h2
        obtain ⟨w, -, hw, rfl⟩ := id h3
        have hu7 := g.ug hu
        have b8 : d (154 + u) ≤ d (142 + u) := hu7.2.2.2.2.2.2.1
        have b7 : d (154 + u) ≤ 500 := Nat.le_trans hu7.2.2.2.2.2.2.1 hu7.2.2.2.2.2.1
        have e1 : ∀ {k : Nat}, k ≠ 142 + u → du d (142 + u) v k = d k := fun h => du_ne _ _ h
        have e2 : ∀ {k : Nat}, k ≠ 142 + u → k ≠ 166 + u → du (du d (142 + u) v) (166 + u) w k = d k := fun h h' => by rw [du_ne _ _ h', du_ne _ _ h]
        have hm := Nat.min_le_left (d (154 + u)) v
        have hm2 := Nat.min_le_right (d (154 + u)) v
        have g1 : Geo (du (du (du d (142 + u) v) (166 + u) w) (154 + u) (min (d (154 + u)) v)) := by
          have q0 : Geo (du d (154 + u) (min (d (154 + u)) v)) := g.s154 hu (by omega)
          have q1 : Geo (du (du d (154 + u) (min (d (154 + u)) v)) (142 + u) v) := q0.s142 (by rw [du_ne _ _ (by omega)]; exact hu) (by omega) (by rw [du_self]; exact hm2)
          have q2 := q1.s166 (u := u) (x := w) (by rw [du_ne _ _ (by omega), du_ne _ _ (by omega)]; exact hu) (by omega)
          rw [du_comm (a := 154 + u) (b := 142 + u) _ _ _ (by omega), du_comm (a := 154 + u) (b := 166 + u) _ _ _ (by omega)] at q2
          exact q2
        refine Agr.to hS (du (du (du d (142 + u) v) (166 + u) w) (154 + u) (min (d (154 + u)) v)) (Inv.mk g1 ((((hS.1.cnt.up (by omega) hT).du hn (by omega)).du (by rw [e1 (by omega)]; exact hn) (by omega)).du (by rw [e2 (by omega) (by omega)]; exact hn) (by omega))) (nI (min (d (154 + u)) v)) ?_ ?_
        · unfold J_X5_setPond
          refine C_usr_t g hX.1 h (y1 (C_in_t (lo := 0) (hi := 500) (by decide) h2 (z1 (C_in_t (lo := 0) (hi := 20) (by decide) h3 (y1 ⟨vp_in_nI (by omega) (by decide), ?_⟩)))))
          rw [nI_clamp (by omega)]
          rintro _ rfl _ rfl
          have s1 : RepX _ 0 (du d (142 + u) v) := hX.1.setU (f := 6) hN hn hu (by decide) (by decide) v
          have s2 : RepX _ 0 (du (du d (142 + u) v) (166 + u) w) := s1.setU (f := 8) (by rw [e1 (by omega)]; exact hN) (by rw [e1 (by omega)]; exact hn) (by rw [e1 (by omega)]; exact hu) (by decide) (by decide) w
          have hu2 : u < du (du d (142 + u) v) (166 + u) w 2 := by rw [e2 (by omega) (by omega)]; exact hu
          rw [s2.u7 hu2, e2 (by omega) (by omega), nI_min (by omega) (by omega)]
          rintro _ rfl
          have s3 := s2.setU (f := 7) (by rw [e2 (by omega) (by omega)]; exact hN) (by rw [e2 (by omega) (by omega)]; exact hn) hu2 (by decide) (by decide) (min (d (154 + u)) v)
          rw [mup_same]
          exact ⟨rfl, hX.fr0 (((FrJ.rf.own (by decide) _ _).own (by decide) _ _).own (by decide) _ _) s3⟩
        · unfold J_X6_setPond
          refine R_usr_t g hM.1 h (y1 (R_in_t (lo := 0) (hi := 500) (by decide) h2 (z1 (R_in_t (lo := 0) (hi := 20) (by decide) h3 (y1 ?_)))))
          rw [fa_lit 142, fa_lit 166, fa_lit 154, nI_add, nI_add, nI_add, nI_clamp (by omega), nI_clamp (by omega), nI_clamp (by omega)]
          refine ⟨vp_in_nI (by omega) (by decide), ?_⟩
          rintro _ rfl
          refine ⟨vp_in_nI (by omega) (by decide), ?_⟩
          rintro _ rfl
          refine ⟨vp_in_nI (by omega) (by decide), ?_⟩
          have s2 := (hM.1.du (142 + u) v).du (166 + u) w
          rw [s2 (154 + u) (by omega), e2 (by omega) (by omega)]
          refine R_least (by omega) (by omega) ⟨vp_in_nI (by omega) (by decide), ?_⟩
          rintro _ rfl
          refine ⟨vp_in_nI (by omega) (by decide), ?_⟩
          rw [mup_same]
          exact ⟨rfl, hM.fr (((FrM.rf.m1 _ _).m1 _ _).m1 _ _) (s2.du _ _)⟩
      · refine Agr.same hS hT (-102) ?_ ?_
        · unfold J_X5_setPond
          exact C_usr_t g hX.1 h (y1 (C_in_t (lo := 0) (hi := 500) (by decide) h2 (z1 (C_in_f (lo := 0) (hi := 20) (by decide) (by decide) h3 (y0 ⟨rfl, hX⟩)))))
        · unfold J_X6_setPond
          exact R_usr_t g hM.1 h (y1 (R_in_t (lo := 0) (hi := 500) (by decide) h2 (z1 (R_in_f (lo := 0) (hi := 20) (by decide) (by decide) h3 (y0 ⟨rfl, hM⟩)))))
    · refine Agr.same hS hT (-102) ?_ ?_
      · unfold J_X5_setPond
        exact C_usr_t g hX.1 h (y1 (C_in_f (lo := 0) (hi := 500) (by decide) (by decide) h2 (z0 ⟨rfl, hX⟩)))
      · unfold J_X6_setPond
        exact R_usr_t g hM.1 h (y1 (R_in_f (lo := 0) (hi := 500) (by decide) (by decide) h2 (z0 ⟨rfl, hM⟩)))
  · refine Agr.same hS hT (-101) ?_ ?_
    · unfold J_X5_setPond
      exact C_usr_f g hX.1 h (y0 ⟨rfl, hX⟩)
    · unfold J_X6_setPond
      exact R_usr_f g hM.1 h (y0 ⟨rfl, hM⟩)
/-- the supply of the hours from a on, k of them -/
def spd (d : Dst) (a x : Nat) : Nat → Dst
  | 0 => d
  | k + 1 => du (spd d a x k) (12 + (a + k)) x
theorem spd_ne {d : Dst} {a x i : Nat} : ∀ {k : Nat}, (i < 12 ∨ 12 + (a + k) ≤ i) → spd d a x k i = d i
  | 0, _ => rfl
  | k + 1, h => by
    show du _ _ _ i = _
    rw [du_ne _ _ (by omega)]
    exact spd_ne (by omega)
theorem spd_geo {a x : Nat} (g : Geo d) (hx : x ≤ 200) : ∀ {k : Nat}, a + k ≤ 24 → Geo (spd d a x k)
  | 0, _ => g
  | k + 1, h => (spd_geo g hx (by omega)).s12 (by omega) hx
theorem spd_cnt {a x : Nat} (c : Cnt T d) : ∀ {k : Nat}, a + k ≤ 24 → Cnt T (spd d a x k)
  | k, h => c.of (spd_ne (by omega)) (spd_ne (by omega)) (fun i hi => spd_ne (by omega)) (fun u hu => spd_ne (by omega))
theorem C_putSupply {j a c x : Nat} {τ : Mem} {Q : Mem → Prop} (g : Geo d) (hv : RepX τ j d) (hac : a < c) (hc : c ≤ 24) (hQ : ∀ τ' : Mem, (∀ o : Oid, o ≠ (11, j, 0) → τ' o = τ o) → RepX τ' j (spd d a x (c - a)) → Q τ') : J_X2_putSupply j (nI a) (nI c) (nI x) τ Q := by
  have hN := g.nd
  unfold J_X2_putSupply
  rw [if_neg (nI_pos (by omega))]
  rintro _ rfl
  refine lpMf a c rfl (by omega) (by omega) (fun k τ' => (∀ o : Oid, o ≠ (11, j, 0) → τ' o = τ o) ∧ RepX τ' j (spd d a x (k - a))) ⟨fun _ _ => rfl, by rw [Nat.sub_self]; exact hv⟩ (fun k τ2 I μ h1 h2 hP next => ?_)
  obtain ⟨hf, hr⟩ := hP
  refine br_le (by omega) (by omega) (fun q => ?_) (fun q => ?_)
  · have : k = c := by omega
    subst this
    exact hQ τ2 hf hr
  · rw [fa_lit 24]
    refine br_le (by omega) (by omega) (fun z => absurd z (by omega)) (fun z => ⟨vp_in_nI (by omega) (by decide), ?_⟩)
    rw [nI_clamp (by omega)]
    rintro _ rfl _ rfl
    rw [nI_1]
    refine next q _ ⟨fun o ho => by rw [mup_ne _ _ _ ho]; exact hf o ho, ?_⟩
    have s := hr.setS (by rw [spd_ne (by omega)]; exact hN) (i := k) (by omega) x
    have e : spd d a x (k + 1 - a) = du (spd d a x (k - a)) (12 + k) x := by
      rw [show k + 1 - a = (k - a) + 1 by omega]
      show du _ (12 + (a + (k - a))) x = _
      rw [show a + (k - a) = k by omega]
    rw [e]
    exact s
theorem R_supplies {a c x : Nat} {τ : Mem} {Q : Int32 → Mem → Prop} (hv : RepM τ d) (hac : a < c) (hc : c ≤ 24) (hQ : ∀ τ' : Mem, (∀ o : Oid, o ≠ (1, 0, 0) → τ' o = τ o) → RepM τ' (spd d a x (c - a)) → Q (nI (d (12 + a))) τ') : J_X6_supplies (nI a) (nI c) (nI x) τ Q := by
  unfold J_X6_supplies
  rw [fa_lit 12, nI_add, nI_clamp (by omega), hv (12 + a) (by omega)]
  refine ⟨vp_in_nI (by omega) (by decide), ?_⟩
  rintro _ rfl
  refine lpMf a c rfl (by omega) (by omega) (fun k τ' => (∀ o : Oid, o ≠ (1, 0, 0) → τ' o = τ o) ∧ RepM τ' (spd d a x (k - a))) ⟨fun _ _ => rfl, by rw [Nat.sub_self]; exact hv⟩ (fun k τ2 I μ h1 h2 hP next => ?_)
  obtain ⟨hf, hr⟩ := hP
  refine br_le (by omega) (by omega) (fun q => ?_) (fun q => ?_)
  · have : k = c := by omega
    subst this
    exact hQ τ2 hf hr
  · rw [nI_add, nI_clamp (by omega)]
    refine ⟨vp_in_nI (by omega) (by decide), ?_⟩
    rintro _ rfl _ rfl
    rw [nI_1]
    refine next q _ ⟨fun o ho => by rw [mup_ne _ _ _ ho]; exact hf o ho, ?_⟩
    have e : spd d a x (k + 1 - a) = du (spd d a x (k - a)) (12 + k) x := by
      rw [show k + 1 - a = (k - a) + 1 by omega]
      show du _ (12 + (a + (k - a))) x = _
      rw [show a + (k - a) = k by omega]
    rw [e]
    exact hr.du _ _
theorem P_setSupply (hS : IS T d b ds n t) (hT : T + 48 ≤ 30000) (hX : WX σ d b ds n t) (hM : WM ρ d b ds n t) (x y z : Int32) : Agr (T + 48) (J_X5_setSupply x y z σ) (J_X6_setSupply x y z ρ) := by
  have g := hS.geo
  by_cases h2 : Hrs x y
  · by_cases h3 : Rng 0 201 z
    · obtain ⟨a, c, ha, hc, rfl, rfl⟩ := id h2
      obtain ⟨w, -, hw, rfl⟩ := id h3
      refine Agr.to hS (spd d a w (c - a)) (Inv.mk (spd_geo g (by omega) (by omega)) (spd_cnt (hS.1.cnt.up (by omega) hT) (by omega))) (nI (d (12 + a))) ?_ ?_
      · unfold J_X5_setSupply
        refine C_hrs_t h2 (z1 (C_in_t (lo := 0) (hi := 200) (by decide) h3 (y1 ⟨vp_in_nI (by omega) (by decide), ?_⟩)))
        rw [nI_clamp (by omega), hX.1.sp (by omega : a < 24)]
        rintro _ rfl
        refine C_putSupply g hX.1 ha hc (fun τ' hf hr => ⟨rfl, hX.fr0 (fun o _ _ _ q => hf o (fun e => by rw [e] at q; revert q; decide)) hr⟩)
      · unfold J_X6_setSupply
        refine R_in_t (lo := 0) (hi := 23) (by decide) ⟨a, Nat.zero_le _, by omega, rfl⟩ (z1 (R_hr2_t ha hc (z1 (R_in_t (lo := 0) (hi := 200) (by decide) h3 (y1 ?_)))))
        exact R_supplies hM.1 ha hc (fun τ' hf hr => ⟨rfl, hM.fr (FrM.of (fun o q _ _ _ _ _ _ => hf o (oid_ne q))) hr⟩)
    · refine Agr.same hS hT (-102) ?_ ?_
      · unfold J_X5_setSupply
        exact C_hrs_t h2 (z1 (C_in_f (lo := 0) (hi := 200) (by decide) (by decide) h3 (y0 ⟨rfl, hX⟩)))
      · obtain ⟨a, c, ha, hc, rfl, rfl⟩ := id h2
        unfold J_X6_setSupply
        exact R_in_t (lo := 0) (hi := 23) (by decide) ⟨a, Nat.zero_le _, by omega, rfl⟩ (z1 (R_hr2_t ha hc (z1 (R_in_f (lo := 0) (hi := 200) (by decide) (by decide) h3 (y0 ⟨rfl, hM⟩)))))
  · refine Agr.same hS hT (-102) ?_ ?_
    · unfold J_X5_setSupply
      exact C_hrs_f h2 (z0 ⟨rfl, hX⟩)
    · unfold J_X6_setSupply
      by_cases h4 : Rng 0 24 x
      · refine R_in_t (lo := 0) (hi := 23) (by decide) h4 (z1 ?_)
        obtain ⟨a, -, ha, rfl⟩ := h4
        exact R_hr2_f ha h2 (z0 ⟨rfl, hM⟩)
      · exact R_in_f (lo := 0) (hi := 23) (by decide) (by decide) h4 (z0 ⟨rfl, hM⟩)
end C2
