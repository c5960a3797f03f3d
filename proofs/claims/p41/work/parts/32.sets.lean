/-! PART 32: the calls of the law that change the district, and those that are refused -/
section KS
variable {T : Nat} {σ σ' E : Mem} {d d' : Dst} {b : Nat → Nat} {ds : Nat → Dst} {Q : Int32 → Mem → Prop}
theorem K_setRule (hI : Inv T d) (hX : WZ σ d b ds E) {v : Nat} (hv : v ≤ 2) (hQ : ∀ σ' : Mem, Inv T (du d 3 v) → WZ σ' (du d 3 v) b ds E → Q (nI (d 3)) σ') : J_X5_setRule (nI v) σ Q := by
  unfold J_X5_setRule
  refine C_in_t (lo := 0) (hi := 2) (by decide) (Rg (Nat.zero_le _) (by omega)) (y1 ?_)
  rw [hX.1.rl]
  rintro _ rfl _ rfl
  exact hQ _ (Inv.mk (hI.geo.s3 hv) (hI.cnt.du hI.geo.nu (by omega))) (hX.fr0 (FrJ.rf.own (by decide) _ _) (hX.1.setR v))
theorem K_setTurn (hI : Inv T d) (hX : WZ σ d b ds E) {u v : Nat} (hu : u < d 2) (hv : v ≤ 24) (hQ : ∀ σ' : Mem, Inv T (du d (178 + u) v) → WZ σ' (du d (178 + u) v) b ds E → Q (nI (d (178 + u))) σ') : J_X5_setTurn (nI u) (nI v) σ Q := by
  have g := hI.geo
  have hn := g.nu
  have hN := g.nd
  unfold J_X5_setTurn
  refine C_usr_t g hX.1 (Rg (Nat.zero_le _) hu) (y1 (C_in_t (lo := 0) (hi := 24) (by decide) (Rg (Nat.zero_le _) (by omega)) (y1 ⟨vp_in_nI (by omega) (by decide), ?_⟩)))
  rw [nI_clamp (by omega), hX.1.u9 hu]
  rintro _ rfl _ rfl
  exact hQ _ (Inv.mk (g.s178 hu hv) (hI.cnt.du hn (by omega))) (hX.fr0 (FrJ.rf.own (by decide) _ _) (hX.1.setU (f := 9) hN hn hu (by decide) (by decide) v))
theorem K_setDitch (hI : Inv T d) (hX : WZ σ d b ds E) {u v w : Nat} (hu : u < d 1) (hv1 : 1 ≤ v) (hv : v ≤ 200) (hw : w ≤ 50) (hQ : ∀ σ' : Mem, Inv T (du (du d (50 + u) v) (60 + u) w) → WZ σ' (du (du d (50 + u) v) (60 + u) w) b ds E → Q (nI (d (50 + u))) σ') : J_X5_setDitch (nI u) (nI v) (nI w) σ Q := by
  have g := hI.geo
  have hn := g.nu
  have hN := g.nd
  have e1 : du d (50 + u) v 1 = d 1 := du_ne _ _ (by omega)
  have g1 : Geo (du (du d (50 + u) v) (60 + u) w) := (g.s50 hu hv1 hv).s60 (by rw [e1]; exact hu) hw
  unfold J_X5_setDitch
  refine C_dit_t g hX.1 (Rg (Nat.zero_le _) hu) (y1 (C_gl_t (Rg hv1 (by omega)) (Rg (Nat.zero_le _) (by omega)) (y1 ⟨vp_in_nI (by omega) (by decide), ?_⟩)))
  rw [nI_clamp (by omega), hX.1.ga hu]
  rintro _ rfl _ rfl _ rfl
  have s1 : RepX _ 0 (du d (50 + u) v) := hX.1.setD hN (f := 1) hu (by decide) v
  exact hQ _ (Inv.mk g1 ((hI.cnt.du hn (by omega)).du (by rw [du_ne _ _ (by omega)]; exact hn) (by omega))) (hX.fr0 ((FrJ.rf.own (by decide) _ _).own (by decide) _ _) (s1.setD (by rw [e1]; exact hN) (f := 2) (by rw [e1]; exact hu) (by decide) w))
theorem K_setSupply (hI : Inv T d) (hX : WZ σ d b ds E) {w : Nat} (hw : w ≤ 200) (hQ : ∀ σ' : Mem, Inv T (spd d 0 w 24) → WZ σ' (spd d 0 w 24) b ds E → Q (nI (d 12)) σ') : J_X5_setSupply 0 24 (nI w) σ Q := by
  have g := hI.geo
  unfold J_X5_setSupply
  refine C_hrs_t (x := nI 0) (y := nI 24) ⟨0, 24, by decide, by decide, rfl, rfl⟩ (z1 (C_in_t (lo := 0) (hi := 200) (by decide) (Rg (Nat.zero_le _) (by omega)) (y1 ⟨vp_in_nI (n := 0) (N := 24) (by decide) (by decide), ?_⟩)))
  rw [show (0 : Int32) = nI 0 from rfl, nI_clamp (n := 0) (by decide), hX.1.sp (by decide : 0 < 24)]
  rintro _ rfl
  exact C_putSupply (a := 0) (c := 24) g hX.1 (by decide) (by decide) (fun τ' hf hr => hQ _ (Inv.mk (spd_geo g hw (by omega)) (spd_cnt hI.cnt (by omega))) (hX.fr0 (fun o _ _ _ q => hf o (fun e => by rw [e] at q; revert q; decide)) hr))
theorem K_setField (hI : Inv T d) (hX : WZ σ d b ds E) {u v : Nat} (hu : u < d 2) (hv : v ≤ 60) (hQ : ∀ σ' : Mem, Inv T (du (du (du d (106 + u) v) (118 + u) 0) (130 + u) 24) → WZ σ' (du (du (du d (106 + u) v) (118 + u) 0) (130 + u) 24) b ds E → Q (nI (d (106 + u))) σ') : J_X5_setField (nI u) (nI v) 0 24 σ Q := by
  have g := hI.geo
  have hn := g.nu
  have hN := g.nd
  have e1 : ∀ {k : Nat}, k < 3 → du d (106 + u) v k = d k := fun h => du_ne _ _ (by omega)
  have e2 : ∀ {k : Nat}, k < 3 → du (du d (106 + u) v) (118 + u) 0 k = d k := fun h => by rw [du_ne _ _ (by omega), du_ne _ _ (by omega)]
  have g1 : Geo (du (du (du d (106 + u) v) (118 + u) 0) (130 + u) 24) := ((g.s106 hu (by omega)).s118 (by rw [e1 (by decide)]; exact hu) (by omega)).s130 (by rw [e2 (by decide)]; exact hu) (by omega)
  unfold J_X5_setField
  refine C_usr_t g hX.1 (Rg (Nat.zero_le _) hu) (y1 (C_in_t (lo := 0) (hi := 60) (by decide) (Rg (Nat.zero_le _) (by omega)) (z1 (C_hrs_t (x := nI 0) (y := nI 24) ⟨0, 24, by decide, by decide, rfl, rfl⟩ (y1 ⟨vp_in_nI (by omega) (by decide), ?_⟩)))))
  rw [nI_clamp (by omega), hX.1.u3 hu]
  rintro _ rfl _ rfl _ rfl _ rfl
  have s1 : RepX _ 0 (du d (106 + u) v) := hX.1.setU (f := 3) hN hn hu (by decide) (by decide) v
  have s2 : RepX _ 0 (du (du d (106 + u) v) (118 + u) 0) := s1.setU (f := 4) (by rw [e1 (by decide)]; exact hN) (by rw [e1 (by decide)]; exact hn) (by rw [e1 (by decide)]; exact hu) (by decide) (by decide) 0
  exact hQ _ (Inv.mk g1 (((hI.cnt.du hn (by omega)).du (by rw [e1 (by decide)]; exact hn) (by omega)).du (by rw [e2 (by decide)]; exact hn) (by omega))) (hX.fr0 (((FrJ.rf.own (by decide) _ _).own (by decide) _ _).own (by decide) _ _) (s2.setU (f := 5) (by rw [e2 (by decide)]; exact hN) (by rw [e2 (by decide)]; exact hn) (by rw [e2 (by decide)]; exact hu) (by decide) (by decide) 24))
theorem K_setPond (hI : Inv T d) (hX : WZ σ d b ds E) {u v : Nat} (hu : u < d 2) (hv : v ≤ 500) (hQ : ∀ σ' : Mem, Inv T (du (du (du d (142 + u) v) (166 + u) 0) (154 + u) (min (d (154 + u)) v)) → WZ σ' (du (du (du d (142 + u) v) (166 + u) 0) (154 + u) (min (d (154 + u)) v)) b ds E → Q (nI (min (d (154 + u)) v)) σ') : J_X5_setPond (nI u) (nI v) 0 σ Q := by
  have g := hI.geo
  have hn := g.nu
  have hN := g.nd
  have hu7 := g.ug hu
  have b8 : d (154 + u) ≤ d (142 + u) := hu7.2.2.2.2.2.2.1
  have b7 : d (154 + u) ≤ 500 := Nat.le_trans hu7.2.2.2.2.2.2.1 hu7.2.2.2.2.2.1
  have e1 : ∀ {k : Nat}, k ≠ 142 + u → du d (142 + u) v k = d k := fun h => du_ne _ _ h
  have e2 : ∀ {k : Nat}, k ≠ 142 + u → k ≠ 166 + u → du (du d (142 + u) v) (166 + u) 0 k = d k := fun h h' => by rw [du_ne _ _ h', du_ne _ _ h]
  have hm := Nat.min_le_left (d (154 + u)) v
  have hm2 := Nat.min_le_right (d (154 + u)) v
  have g1 : Geo (du (du (du d (142 + u) v) (166 + u) 0) (154 + u) (min (d (154 + u)) v)) := by
    have q0 : Geo (du d (154 + u) (min (d (154 + u)) v)) := g.s154 hu (by omega)
    have q1 : Geo (du (du d (154 + u) (min (d (154 + u)) v)) (142 + u) v) := q0.s142 (by rw [du_ne _ _ (by omega)]; exact hu) (by omega) (by rw [du_self]; exact hm2)
    have q2 := q1.s166 (u := u) (x := 0) (by rw [du_ne _ _ (by omega), du_ne _ _ (by omega)]; exact hu) (by omega)
    rw [du_comm (a := 154 + u) (b := 142 + u) _ _ _ (by omega), du_comm (a := 154 + u) (b := 166 + u) _ _ _ (by omega)] at q2
    exact q2
  unfold J_X5_setPond
  refine C_usr_t g hX.1 (Rg (Nat.zero_le _) hu) (y1 (C_in_t (lo := 0) (hi := 500) (by decide) (Rg (Nat.zero_le _) (by omega)) (z1 (C_in_t (lo := 0) (hi := 20) (x := nI 0) (by decide) (Rg (Nat.zero_le _) (by omega)) (y1 ⟨vp_in_nI (by omega) (by decide), ?_⟩)))))
  rw [nI_clamp (by omega)]
  rintro _ rfl _ rfl
  have s1 : RepX _ 0 (du d (142 + u) v) := hX.1.setU (f := 6) hN hn hu (by decide) (by decide) v
  have s2 : RepX _ 0 (du (du d (142 + u) v) (166 + u) 0) := s1.setU (f := 8) (by rw [e1 (by omega)]; exact hN) (by rw [e1 (by omega)]; exact hn) (by rw [e1 (by omega)]; exact hu) (by decide) (by decide) 0
  have hu2 : u < du (du d (142 + u) v) (166 + u) 0 2 := by rw [e2 (by omega) (by omega)]; exact hu
  have e3 := s2.u7 hu2
  rw [e2 (by omega) (by omega)] at e3
  rw [show (0 : Int32) = nI 0 from rfl, e3, nI_min (by omega) (by omega)]
  rintro _ rfl
  have s3 := s2.setU (f := 7) (by rw [e2 (by omega) (by omega)]; exact hN) (by rw [e2 (by omega) (by omega)]; exact hn) hu2 (by decide) (by decide) (min (d (154 + u)) v)
  rw [mup_same]
  exact hQ _ (Inv.mk g1 (((hI.cnt.du hn (by omega)).du (by rw [e1 (by omega)]; exact hn) (by omega)).du (by rw [e2 (by omega) (by omega)]; exact hn) (by omega))) (hX.fr0 (((FrJ.rf.own (by decide) _ _).own (by decide) _ _).own (by decide) _ _) s3)
theorem K_addDitch (hI : Inv T d) (hX : WZ σ d b ds E) {u v w : Nat} (hu : u < d 1) (hv1 : 1 ≤ v) (hv : v ≤ 200) (hw : w ≤ 50) (h3 : d 1 < 10) (hQ : ∀ σ' : Mem, Inv T (addD d u v w) → WZ σ' (addD d u v w) b ds E → Q (nI (d 1)) σ') : J_X5_addDitch (nI u) (nI v) (nI w) σ Q := by
  have g := hI.geo
  have hN := g.nd
  unfold J_X5_addDitch
  refine C_dit_t g hX.1 (Rg (Nat.zero_le _) hu) (y1 (C_gl_t (Rg hv1 (by omega)) (Rg (Nat.zero_le _) (by omega)) (y1 ?_)))
  unfold J_X2_hasRoomForDitch
  rw [hX.1.nd, fa_lit 10]
  refine br_le (by omega) (by omega) (fun q => absurd q (by omega)) (fun _ => y1 (C_putDitch g hX.1 (by omega) (fun τ' hf hfr hr => ?_)))
  rw [hr.nd, addD_1, nI_pred]
  exact hQ _ (Inv.mk (addD_geo g (by omega) hu ⟨hv1, hv⟩ hw) (addD_cnt hI.cnt (by omega))) (hX.fr0 hfr hr)
theorem K_addUser (hI : Inv T d) (hX : WZ σ d b ds E) {u v w : Nat} (hu : u < d 1) (hv1 : 1800 ≤ v) (hv : v ≤ 2099) (hw : w ≤ 60) (h3 : d 2 < 12) (hQ : ∀ σ' : Mem, Inv T (addU d u v w) → WZ σ' (addU d u v w) b ds E → Q (nI (d 2)) σ') : J_X5_addUser (nI u) (nI v) (nI w) σ Q := by
  have g := hI.geo
  have hN := g.nd
  have hn := g.nu
  unfold J_X5_addUser
  refine C_dit_t g hX.1 (Rg (Nat.zero_le _) hu) (y1 (C_in_t (lo := 1800) (hi := 2099) (by decide) (Rg hv1 (by omega)) (z1 (C_in_t (lo := 0) (hi := 60) (by decide) (Rg (Nat.zero_le _) (by omega)) (y1 ?_)))))
  unfold J_X2_hasRoomForUser
  rw [hX.1.nu, fa_lit 12]
  refine br_le (by omega) (by omega) (fun q => absurd q (by omega)) (fun _ => y1 (C_putUser g hX.1 (by omega) (by omega) (fun τ' hf hfr hr => ?_)))
  rw [hr.nu, addU_2, nI_pred]
  exact hQ _ (Inv.mk (addU_geo g (by omega) hu (by omega) (by omega)) (addU_cnt2 hI.cnt (by omega))) (hX.fr0 hfr hr)
theorem K_advance (hI : Inv T d) (hX : WZ σ d b ds E) {v : Nat} (hv1 : 1 ≤ v) (hv : v ≤ 48) (hT : T + 48 ≤ 30000) (hQ : ∀ σ' : Mem, Inv (T + v) (psn d v) → WZ σ' (psn d v) b ds E → Q (nI (psn d v 11) - nI (d 11)) σ') : J_X5_advance (nI v) σ Q := by
  unfold J_X5_advance
  refine C_in_t (lo := 1) (hi := 48) (by decide) (Rg hv1 (by omega)) (y1 ?_)
  refine lpAM v (by omega) (fun k y τ' => FrJ 0 σ τ' ∧ RepX τ' 0 (psn d k) ∧ y = nI (psn d k 11) - nI (d 11)) ⟨FrJ.rf, hX.1, (Int32.sub_self _).symm⟩ (fun k y τ3 I μ hk hP next => ?_)
  obtain ⟨hf, hr, rfl⟩ := hP
  refine br_le (by omega) (by omega) (fun hle => ?_) (fun hlt => ?_)
  · have : k = v := by omega
    subst this
    exact hQ _ (psn_inv hI (k := k) (by omega)) (hX.fr0 hf hr)
  · refine C_passHour (psn_inv hI (k := k) (by omega)) (by omega) hr (fun τ' hf' hr' => ?_)
    rw [i32_cyc]
    rintro _ rfl _ rfl
    rw [nI_1]
    exact next hlt _ _ ⟨hf.tr hf', hr', rfl⟩
theorem K_save (hI : Inv T d) (hX : WZ σ d b ds E) {v : Nat} (hv : v < 2) (hQ : ∀ σ' : Mem, WZ σ' d (fun q => if q = v then 1 else b q) (fun q => if q = v then d else ds q) E → Q (nI (d 0)) σ') : J_X5_save (nI v) σ Q := by
  obtain ⟨h1, h2', h3⟩ := hX
  unfold J_X5_save
  refine C_in_t (lo := 0) (hi := 1) (by decide) (Rg (Nat.zero_le _) (by omega)) (y1 ⟨vp_in_nI hv (by decide), ?_⟩)
  rw [nI_clamp (by omega)]
  refine C_copyFrom hI.geo (by omega) h1 (fun τ4 hf4 hr4 => ⟨vp_in_nI hv (by decide), ?_⟩)
  have e1 : vp_nar .boolean 1 = nI 1 := by decide +kernel
  rw [e1]
  rintro _ rfl
  have e : ∀ o : Oid, o.1 ≠ 2 → mup τ4 (2, 0, 0) v (nI 1) o = τ4 o := fun o q => mup_o _ _ _ q
  have r0 : RepX (mup τ4 (2, 0, 0) v (nI 1)) 0 d := h1.row (fun o q1 q2 q3 => by rw [e o (by omega)]; exact hf4 o (by omega))
  rw [r0.tm]
  refine hQ _ ⟨r0, fun s hs => ⟨?_, fun q => ?_⟩, fun o ho => ?_⟩
  · rw [mup_at]
    by_cases q : s = v
    · simp only [q, if_true]
    · simp only [q, if_false]
      rw [hf4 _ (Or.inl (by decide))]
      exact (h2' s hs).1
  · by_cases z : s = v
    · simp only [z, if_true]
      exact hr4.row (fun o q1 q2 q3 => e o (by omega))
    · simp only [z, if_false] at q ⊢
      exact ((h2' s hs).2 q).row (fun o q1 q2 q3 => by rw [e o (by omega)]; exact hf4 o (by omega))
  · rw [e o (by omega), hf4 o (by omega)]
    exact h3 o ho
theorem K_restore (hX : WZ σ d b ds E) {v T' : Nat} (hv : v < 2) (hb : b v = 1) (hIv : Inv T' (ds v)) (hQ : ∀ σ' : Mem, WZ σ' (ds v) b ds E → Q (nI (ds v 0)) σ') : J_X5_restore (nI v) σ Q := by
  unfold J_X5_restore
  refine C_in_t (lo := 0) (hi := 1) (by decide) (Rg (Nat.zero_le _) (by omega)) (y1 ⟨vp_in_nI hv (by decide), ?_⟩)
  rw [nI_clamp (by omega), (hX.2.1 v hv).1, hb]
  refine k1 (by decide) ⟨vp_in_nI hv (by decide), C_copyFrom hIv.geo (by omega) ((hX.2.1 v hv).2 hb) (fun τ6 hf6 hr6 => ?_)⟩
  rw [hr6.tm]
  exact hQ _ (hX.fr0 hf6.fj hr6)
theorem K_restore_n (hX : WZ σ d b ds E) {v : Nat} (hv : v < 2) (hb : b v = 0) (hQ : Q (-103) σ) : J_X5_restore (nI v) σ Q := by
  unfold J_X5_restore
  refine C_in_t (lo := 0) (hi := 1) (by decide) (Rg (Nat.zero_le _) (by omega)) (y1 ⟨vp_in_nI hv (by decide), ?_⟩)
  rw [nI_clamp (by omega), (hX.2.1 v hv).1, hb]
  exact k0 rfl hQ
theorem K_settle (hI0 : Inv T d) (hX : WZ σ d b ds E) (hQ : ∀ σ' : Mem, Inv T (outr (d 2) (d 2) 0 (d, 0)).1 → WZ σ' (outr (d 2) (d 2) 0 (d, 0)).1 b ds E → Q (nI (outr (d 2) (d 2) 0 (d, 0)).2) σ') : J_X5_settle σ Q := by
  have hn := hI0.geo.nu
  obtain ⟨F, hF⟩ : ∃ F : Dst × Nat, F = outr (d 2) (d 2) 0 (d, 0) := ⟨_, rfl⟩
  rw [← hF] at hQ
  unfold J_X5_settle
  refine lpAM (d 2) (by omega) (fun k y τ' => ∃ s : Dst × Nat, Inv T s.1 ∧ s.1 2 = d 2 ∧ WZ τ' s.1 b ds E ∧ y = nI s.2 ∧ outr (d 2) (d 2 - k) k s = F) ⟨(d, 0), hI0, rfl, hX, rfl, hF.symm⟩ (fun k y τ1 I μ hk hP next => ?_)
  obtain ⟨s, hI, hs2, hX1, rfl, ho⟩ := hP
  rw [hX1.1.nu, hs2]
  refine br_le (by omega) (by omega) (fun hle => ?_) (fun hlt => ?_)
  · have : k = d 2 := by omega
    subst this
    rw [Nat.sub_self] at ho
    have : s = F := ho
    subst this
    exact hQ τ1 hI hX1
  · rintro _ rfl
    have ho2 : outr (d 2) (d 2 - (k + 1)) (k + 1) (inn k (d 2) s) = F := by
      rw [show d 2 - k = (d 2 - (k + 1)) + 1 by omega] at ho
      exact ho
    refine ⟨fun y x τ' => ∃ (m : Nat) (s' : Dst × Nat), m ≤ d 2 ∧ k < m ∧ x = dI m ∧ Inv T s'.1 ∧ s'.1 2 = d 2 ∧ WZ τ' s'.1 b ds E ∧ y = nI s'.2 ∧ inn k m s' = inn k (d 2) s, fun _ x _ => (x + 1).toNatClampNeg, ⟨d 2, s, Nat.le_refl _, hlt, rfl, hI, hs2, hX1, rfl, rfl⟩, ?_⟩
    rintro y x τ4 ⟨m, s', hm, hkm, rfl, hI', hs2', hX4, rfl, hinn⟩
    have g' := hI'.geo
    obtain ⟨m, rfl⟩ : ∃ m', m = m' + 1 := ⟨m - 1, by omega⟩
    rw [dI_succ]
    refine br_le (by omega) (by omega) (fun hle => ?_) (fun hgt => ?_)
    · rintro _ rfl
      rw [nI_1]
      refine next hlt _ _ ⟨s', hI', hs2', hX4, rfl, ?_⟩
      rw [← ho2, ← hinn, inn_le (by omega)]
    · rw [nI_clamp (by omega), nI_clamp (by omega), hX4.1.rk (by omega : k < s'.1 2), hX4.1.rk (by omega : m < s'.1 2)]
      refine ⟨vp_in_nI (by omega) (by decide), vp_in_nI (by omega) (by decide), ?_⟩
      have hR := g'.2.2.2.2.2.2.2.2
      have a1 := (hR k (by omega)).1
      have a2 := (hR m (by omega)).1
      rw [inn_gt hgt] at hinn
      have hμ : (nI m + -1 + 1).toNatClampNeg < (nI m + 1).toNatClampNeg := by
        obtain ⟨m', rfl⟩ : ∃ m', m = m' + 1 := ⟨m - 1, by omega⟩
        rw [pk_m1, nI_1, nI_1, nI_clamp (by omega), nI_clamp (by omega)]
        omega
      refine C_judge hI' hX4.1 a1 a2 (fun τ9 hf9 => ⟨fun hj => ?_, fun hj => ?_⟩)
      · rintro _ rfl
        refine ⟨⟨m, s', by omega, hgt, nI_m1 m, hI', hs2', hX4.fr1 hf9, rfl, ?_⟩, hμ⟩
        have hj' : ¬ jdd s'.1 (rkd s'.1 k) (rkd s'.1 m) = 2 := hj
        unfold stp at hinn
        rw [if_neg hj'] at hinn
        exact hinn
      · have hX9 := hX4.fr1 hf9
        rw [hX9.1.rk (by omega : m < s'.1 2), nI_clamp (by omega)]
        refine ⟨vp_in_nI (by omega) (by decide), vp_in_nI (by omega) (by decide), ?_⟩
        rintro _ rfl _ rfl _ rfl
        have hj' : jdd s'.1 (rkd s'.1 k) (rkd s'.1 m) = 2 := hj
        unfold stp at hinn
        rw [if_pos hj'] at hinn
        rw [nI_1]
        refine ⟨⟨m, (du s'.1 (202 + rkd s'.1 m) 1, s'.2 + 1), by omega, hgt, nI_m1 m, shut_inv hI' a2, ?_, ?_, rfl, hinn⟩, hμ⟩
        · show du s'.1 (202 + rkd s'.1 m) 1 2 = d 2
          rw [du_ne _ _ (by omega)]
          exact hs2'
        · exact hX9.fr0 (FrJ.rf.own (by decide) _ _) (hX9.1.setU (f := 11) g'.nd g'.nu a2 (by decide) (by decide) 1)
-- what is refused
theorem X_addDitch1 (hI : Inv T d) (hX : WZ σ d b ds E) {y z : Int32} (hQ : Q (-101) σ) : J_X5_addDitch (nI (d 1)) y z σ Q := by
  have := hI.geo.nd
  unfold J_X5_addDitch
  exact C_dit_f hI.geo hX.1 (nR (by omega) (by omega) (Or.inr (Nat.le_refl _))) (y0 hQ)
theorem X_addDitch2 (hI : Inv T d) (hX : WZ σ d b ds E) {z : Int32} (hQ : Q (-102) σ) : J_X5_addDitch 0 201 z σ Q := by
  unfold J_X5_addDitch
  exact C_dit_t hI.geo hX.1 (Rg (v := 0) (Nat.zero_le _) hI.1.1) (y1 (C_gl_f (fun h => nR (v := 201) (by decide) (by decide) (by decide) h.1) (y0 hQ)))
theorem X_setDitch (hI : Inv T d) (hX : WZ σ d b ds E) {y : Int32} (hQ : Q (-102) σ) : J_X5_setDitch 0 y 51 σ Q := by
  unfold J_X5_setDitch
  exact C_dit_t hI.geo hX.1 (Rg (v := 0) (Nat.zero_le _) hI.1.1) (y1 (C_gl_f (fun h => nR (v := 51) (by decide) (by decide) (by decide) h.2) (y0 hQ)))
theorem X_addUser1 (hI : Inv T d) (hX : WZ σ d b ds E) {y z : Int32} (hQ : Q (-101) σ) : J_X5_addUser (-1) y z σ Q := by
  have := hI.geo.nd
  unfold J_X5_addUser
  exact C_dit_f hI.geo hX.1 (nRm (by omega)) (y0 hQ)
theorem X_addUser2 (hI : Inv T d) (hX : WZ σ d b ds E) {z : Int32} (hQ : Q (-102) σ) : J_X5_addUser 0 1799 z σ Q := by
  unfold J_X5_addUser
  exact C_dit_t hI.geo hX.1 (Rg (v := 0) (Nat.zero_le _) hI.1.1) (y1 (C_in_f (lo := 1800) (hi := 2099) (by decide) (by decide) (nR (v := 1799) (by decide) (by decide) (by decide)) (z0 hQ)))
theorem X_setField1 (hI : Inv T d) (hX : WZ σ d b ds E) (h2 : 0 < d 2) {y z : Int32} (hQ : Q (-102) σ) : J_X5_setField 0 61 y z σ Q := by
  unfold J_X5_setField
  exact C_usr_t hI.geo hX.1 (Rg (v := 0) (Nat.zero_le _) h2) (y1 (C_in_f (lo := 0) (hi := 60) (by decide) (by decide) (nR (v := 61) (by decide) (by decide) (by decide)) (z0 hQ)))
theorem hrs_55 (v : Nat) (hv : v < 2 ^ 30) : ¬ Hrs (nI v) (nI v) := by
  rw [Hrs.iff]
  rintro ⟨-, -, h⟩
  rw [nI_ltI (by omega) (by omega)] at h
  omega
theorem X_setField2 (hI : Inv T d) (hX : WZ σ d b ds E) (h2 : 0 < d 2) (hQ : Q (-102) σ) : J_X5_setField 0 1 5 5 σ Q := by
  unfold J_X5_setField
  exact C_usr_t hI.geo hX.1 (Rg (v := 0) (Nat.zero_le _) h2) (y1 (C_in_t (lo := 0) (hi := 60) (by decide) (Rg (v := 1) (Nat.zero_le _) (by decide)) (z1 (C_hrs_f (hrs_55 5 (by decide)) (y0 hQ)))))
theorem X_setPond (hI : Inv T d) (hX : WZ σ d b ds E) (h2 : 0 < d 2) {z : Int32} (hQ : Q (-102) σ) : J_X5_setPond 0 501 z σ Q := by
  unfold J_X5_setPond
  exact C_usr_t hI.geo hX.1 (Rg (v := 0) (Nat.zero_le _) h2) (y1 (C_in_f (lo := 0) (hi := 500) (by decide) (by decide) (nR (v := 501) (by decide) (by decide) (by decide)) (z0 hQ)))
theorem X_setTurn (hI : Inv T d) (hX : WZ σ d b ds E) (h2 : 0 < d 2) (hQ : Q (-102) σ) : J_X5_setTurn 0 25 σ Q := by
  unfold J_X5_setTurn
  exact C_usr_t hI.geo hX.1 (Rg (v := 0) (Nat.zero_le _) h2) (y1 (C_in_f (lo := 0) (hi := 24) (by decide) (by decide) (nR (v := 25) (by decide) (by decide) (by decide)) (y0 hQ)))
theorem X_setSupply {z : Int32} (hQ : Q (-102) σ) : J_X5_setSupply 3 3 z σ Q := by
  unfold J_X5_setSupply
  exact C_hrs_f (hrs_55 3 (by decide)) (z0 hQ)
theorem X_setRule (hQ : Q (-102) σ) : J_X5_setRule 3 σ Q := by
  unfold J_X5_setRule
  exact C_in_f (lo := 0) (hi := 2) (by decide) (by decide) (nR (v := 3) (by decide) (by decide) (by decide)) (y0 hQ)
theorem X_setFutile (hQ : Q (-102) σ) : J_X5_setFutile 101 σ Q := by
  unfold J_X5_setFutile
  exact C_in_f (lo := 0) (hi := 100) (by decide) (by decide) (nR (v := 101) (by decide) (by decide) (by decide)) (y0 hQ)
theorem X_advance (hQ : Q (-102) σ) : J_X5_advance 0 σ Q := by
  unfold J_X5_advance
  exact C_in_f (lo := 1) (hi := 48) (by decide) (by decide) (nR (v := 0) (by decide) (by decide) (by decide)) (y0 hQ)
theorem X_gain (hI : Inv T d) (hX : WZ σ d b ds E) (h2 : 0 < d 2) (hQ : Q (-101) σ) : J_X5_gain 0 (nI (d 2)) σ Q := by
  have := hI.geo.nu
  unfold J_X5_gain
  exact C_usr_t hI.geo hX.1 (Rg (v := 0) (Nat.zero_le _) h2) (z1 (C_usr_f hI.geo hX.1 (nR (by omega) (by omega) (Or.inr (Nat.le_refl _))) (y0 hQ)))
theorem X_complaint (hI : Inv T d) (hX : WZ σ d b ds E) (h2 : 0 < d 2) (hQ : Q (-103) σ) : J_X5_complaint 0 0 σ Q := by
  unfold J_X5_complaint
  exact C_usr_t hI.geo hX.1 (Rg (v := 0) (Nat.zero_le _) h2) (z1 (C_usr_t hI.geo hX.1 (Rg (v := 0) (Nat.zero_le _) h2) (y1 (C_isYounger (x := 0) (y := 0) hI hX.1 h2 h2 (fun q => absurd q (older_irr 0)) (fun _ => y0 hQ)))))
theorem X_willMiss (hI : Inv T d) (hX : WZ σ d b ds E) (h2 : 0 < d 2) (hQ : Q (-102) σ) : J_X5_willMiss 0 0 σ Q := by
  unfold J_X5_willMiss
  exact C_usr_t hI.geo hX.1 (Rg (v := 0) (Nat.zero_le _) h2) (y1 (C_in_f (lo := 1) (hi := 48) (by decide) (by decide) (nR (v := 0) (by decide) (by decide) (by decide)) (y0 hQ)))
theorem X_append (hQ : Q (-102) σ) : J_X5_append 128 σ Q := by
  unfold J_X5_append
  exact C_in_f (lo := 0) (hi := 127) (by decide) (by decide) (nR (v := 128) (by decide) (by decide) (by decide)) (y0 hQ)
theorem X_save (hQ : Q (-101) σ) : J_X5_save 2 σ Q := by
  unfold J_X5_save
  exact C_in_f (lo := 0) (hi := 1) (by decide) (by decide) (nR (v := 2) (by decide) (by decide) (by decide)) (y0 hQ)
theorem X_restore (hQ : Q (-101) σ) : J_X5_restore 2 σ Q := by
  unfold J_X5_restore
  exact C_in_f (lo := 0) (hi := 1) (by decide) (by decide) (nR (v := 2) (by decide) (by decide) (by decide)) (y0 hQ)
theorem X_isShut (hI : Inv T d) (hX : WZ σ d b ds E) (hQ : Q (-101) σ) : J_X5_isShut (-1) σ Q := by
  have := hI.geo.nu
  unfold J_X5_isShut
  exact C_usr_f hI.geo hX.1 (nRm (by omega)) (y0 hQ)
theorem X_limit (hI : Inv T d) (hX : WZ σ d b ds E) (hQ : Q (-101) σ) : J_X5_limit (nI (d 2)) σ Q := by
  have := hI.geo.nu
  unfold J_X5_limit
  exact C_usr_f hI.geo hX.1 (nR (by omega) (by omega) (Or.inr (Nat.le_refl _))) (y0 hQ)
theorem X_usefulGate (hI : Inv T d) (hX : WZ σ d b ds E) (hQ : Q (-101) σ) : J_X5_usefulGate (nI (d 1)) σ Q := by
  have := hI.geo.nd
  unfold J_X5_usefulGate
  exact C_dit_f hI.geo hX.1 (nR (by omega) (by omega) (Or.inr (Nat.le_refl _))) (y0 hQ)
end KS
