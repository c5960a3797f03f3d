/-! PART 22: calls: reads of the district, and sets of one number -/
theorem FrJ.own {j : Nat} {τ τ' : Mem} (h : FrJ j τ τ') {k i : Nat} (hk : 7 ≤ k ∧ k ≤ 14) (f : Nat) (x : Int32) : FrJ j τ (mup τ' (k, j, i) f x) := FrJ.mp (o := (k, j, i)) h (Or.inr (Or.inr (Or.inr ⟨hk.1, hk.2, rfl⟩))) f x
theorem cnt_self {d : Dst} {u : Nat} : ∀ {m : Nat}, u < m → cnt d u m < m
  | 0, h => absurd h (Nat.not_lt_zero _)
  | m + 1, h => by
    simp only [cnt]
    by_cases q : u = m
    · subst q
      rw [if_neg (older_irr u)]
      have := cnt_le (d := d) u u
      omega
    · have := cnt_self (d := d) (u := u) (m := m) (by omega)
      split <;> omega
theorem R_turn {T : Nat} {d : Dst} {τ : Mem} {Q : Int32 → Mem → Prop} (hI : Inv T d) (hv : RepM τ d) (hQ : Q (turnC d) τ) : J_X6_turn τ Q := by
  have hn := hI.geo.nu
  unfold J_X6_turn
  refine R_turnNow hI hv ?_
  unfold turnC at hQ
  unfold turnR
  by_cases h : tnow d = 99
  · rw [if_pos h] at hQ ⊢
    exact i0 (by decide) hQ
  · rw [if_neg h] at hQ ⊢
    have := (tnow_lt h).2.2.1
    exact i1 (nI_pos' (by omega)) hQ
section C1
variable {T : Nat} {σ ρ : Mem} {d : Dst} {b : Nat → Nat} {ds : Nat → Dst} {n : Nat} {t : Nat → Nat}
theorem P_ditches (hS : IS T d b ds n t) (hT : T + 48 ≤ 30000) (hX : WX σ d b ds n t) (hM : WM ρ d b ds n t) : Agr (T + 48) (J_X5_ditches σ) (J_X6_ditches ρ) := by
  refine Agr.same hS hT (nI (d 1)) ?_ ?_
  · unfold J_X5_ditches
    exact ⟨hX.1.nd, hX⟩
  · unfold J_X6_ditches
    exact ⟨hM.1 1 (by decide), hM⟩
theorem P_users (hS : IS T d b ds n t) (hT : T + 48 ≤ 30000) (hX : WX σ d b ds n t) (hM : WM ρ d b ds n t) : Agr (T + 48) (J_X5_users σ) (J_X6_users ρ) := by
  refine Agr.same hS hT (nI (d 2)) ?_ ?_
  · unfold J_X5_users
    exact ⟨hX.1.nu, hX⟩
  · unfold J_X6_users
    exact ⟨hM.1 2 (by decide), hM⟩
theorem P_time (hS : IS T d b ds n t) (hT : T + 48 ≤ 30000) (hX : WX σ d b ds n t) (hM : WM ρ d b ds n t) : Agr (T + 48) (J_X5_time σ) (J_X6_time ρ) := by
  refine Agr.same hS hT (nI (d 0)) ?_ ?_
  · unfold J_X5_time
    exact ⟨hX.1.tm, hX⟩
  · unfold J_X6_time
    exact ⟨hM.1 0 (by decide), hM⟩
theorem P_turn (hS : IS T d b ds n t) (hT : T + 48 ≤ 30000) (hX : WX σ d b ds n t) (hM : WM ρ d b ds n t) : Agr (T + 48) (J_X5_turn σ) (J_X6_turn ρ) := by
  refine Agr.same hS hT (turnC d) ?_ ?_
  · unfold J_X5_turn
    exact C_userInTurn hS.1 hX.1 ⟨rfl, hX⟩
  · exact R_turn hS.1 hM.1 ⟨rfl, hM⟩
theorem P_userByAge (hS : IS T d b ds n t) (hT : T + 48 ≤ 30000) (hX : WX σ d b ds n t) (hM : WM ρ d b ds n t) (x : Int32) : Agr (T + 48) (J_X5_userByAge x σ) (J_X6_userByAge x ρ) := by
  have g := hS.geo
  have hn := g.nu
  by_cases h : Rng 0 (d 2) x
  · obtain ⟨v, -, hv, rfl⟩ := id h
    refine Agr.same hS hT (nI (rkd d v)) ?_ ?_
    · unfold J_X5_userByAge
      refine C_usr_t g hX.1 h (z1 ⟨vp_in_nI (by omega) (by decide), ?_⟩)
      rw [nI_clamp (by omega), hX.1.rk hv]
      exact ⟨rfl, hX⟩
    · unfold J_X6_userByAge
      exact R_rank hS.1 hM.1 hv ⟨rfl, hM⟩
  · refine Agr.same hS hT (-101) ?_ ?_
    · unfold J_X5_userByAge
      exact C_usr_f g hX.1 h (z0 ⟨rfl, hX⟩)
    · unfold J_X6_userByAge
      refine R_ranked hS.1 hM.1 (fun u hu he => ?_) (fun _ => ⟨rfl, hM⟩)
      exact absurd ⟨_, Nat.zero_le _, cnt_self hu, he⟩ h
theorem P_account (hS : IS T d b ds n t) (hT : T + 48 ≤ 30000) (hX : WX σ d b ds n t) (hM : WM ρ d b ds n t) (x : Int32) : Agr (T + 48) (J_X5_account x σ) (J_X6_account x ρ) := by
  by_cases h : Rng 0 7 x
  · obtain ⟨v, -, hv, rfl⟩ := id h
    refine Agr.same hS hT (nI (d (5 + v))) ?_ ?_
    · unfold J_X5_account
      refine C_in_t (lo := 0) (hi := 6) (by decide) h (z1 ⟨vp_in_nI (by omega) (by decide), ?_⟩)
      rw [nI_clamp (by omega), hX.1.ac hv]
      exact ⟨rfl, hX⟩
    · unfold J_X6_account
      refine R_in_t (lo := 0) (hi := 6) (by decide) h (z1 ?_)
      rw [fa_lit 5, nI_add, nI_clamp (by omega), hM.1 (5 + v) (by omega)]
      exact ⟨vp_in_nI (by omega) (by decide), rfl, hM⟩
  · refine Agr.same hS hT (-102) ?_ ?_
    · unfold J_X5_account
      exact C_in_f (lo := 0) (hi := 6) (by decide) (by decide) h (z0 ⟨rfl, hX⟩)
    · unfold J_X6_account
      exact R_in_f (lo := 0) (hi := 6) (by decide) (by decide) h (z0 ⟨rfl, hM⟩)
theorem P_pond (hS : IS T d b ds n t) (hT : T + 48 ≤ 30000) (hX : WX σ d b ds n t) (hM : WM ρ d b ds n t) (x : Int32) : Agr (T + 48) (J_X5_pond x σ) (J_X6_pond x ρ) := by
  have g := hS.geo
  have hn := g.nu
  by_cases h : Rng 0 (d 2) x
  · obtain ⟨v, -, hv, rfl⟩ := id h
    refine Agr.same hS hT (nI (d (154 + v))) ?_ ?_
    · unfold J_X5_pond
      refine C_usr_t g hX.1 h (z1 ⟨vp_in_nI (by omega) (by decide), ?_⟩)
      rw [nI_clamp (by omega), hX.1.u7 hv]
      exact ⟨rfl, hX⟩
    · unfold J_X6_pond
      refine R_usr_t g hM.1 h (z1 ?_)
      rw [fa_lit 154, nI_add, nI_clamp (by omega), hM.1 (154 + v) (by omega)]
      exact ⟨vp_in_nI (by omega) (by decide), rfl, hM⟩
  · refine Agr.same hS hT (-101) ?_ ?_
    · unfold J_X5_pond
      exact C_usr_f g hX.1 h (z0 ⟨rfl, hX⟩)
    · unfold J_X6_pond
      exact R_usr_f g hM.1 h (z0 ⟨rfl, hM⟩)
theorem P_missed (hS : IS T d b ds n t) (hT : T + 48 ≤ 30000) (hX : WX σ d b ds n t) (hM : WM ρ d b ds n t) (x : Int32) : Agr (T + 48) (J_X5_missed x σ) (J_X6_missed x ρ) := by
  have g := hS.geo
  have hn := g.nu
  by_cases h : Rng 0 (d 2) x
  · obtain ⟨v, -, hv, rfl⟩ := id h
    refine Agr.same hS hT (nI (d (190 + v))) ?_ ?_
    · unfold J_X5_missed
      refine C_usr_t g hX.1 h (z1 ⟨vp_in_nI (by omega) (by decide), ?_⟩)
      rw [nI_clamp (by omega), hX.1.u10 hv]
      exact ⟨rfl, hX⟩
    · unfold J_X6_missed
      refine R_usr_t g hM.1 h (z1 ?_)
      rw [fa_lit 190, nI_add, nI_clamp (by omega), hM.1 (190 + v) (by omega)]
      exact ⟨vp_in_nI (by omega) (by decide), rfl, hM⟩
  · refine Agr.same hS hT (-101) ?_ ?_
    · unfold J_X5_missed
      exact C_usr_f g hX.1 h (z0 ⟨rfl, hX⟩)
    · unfold J_X6_missed
      exact R_usr_f g hM.1 h (z0 ⟨rfl, hM⟩)
theorem P_isShut (hS : IS T d b ds n t) (hT : T + 48 ≤ 30000) (hX : WX σ d b ds n t) (hM : WM ρ d b ds n t) (x : Int32) : Agr (T + 48) (J_X5_isShut x σ) (J_X6_isShut x ρ) := by
  have g := hS.geo
  have hn := g.nu
  by_cases h : Rng 0 (d 2) x
  · obtain ⟨v, -, hv, rfl⟩ := id h
    have h1 := (g.ug hv).2.2.2.2.2.2.2.2.2
    refine Agr.same hS hT (nI (d (202 + v))) ?_ ?_
    · unfold J_X5_isShut
      refine C_usr_t g hX.1 h (y1 ⟨vp_in_nI (by omega) (by decide), ?_⟩)
      rw [nI_clamp (by omega), hX.1.u11 hv, fa_lit 0]
      refine br_eq (by omega) (by omega) (fun q => ?_) (fun q => ?_)
      · rw [q]; exact ⟨rfl, hX⟩
      · rw [show d (202 + v) = 1 by omega]; exact ⟨rfl, hX⟩
    · unfold J_X6_isShut
      refine R_usr_t g hM.1 h (z1 ?_)
      rw [fa_lit 202, nI_add, nI_clamp (by omega), hM.1 (202 + v) (by omega)]
      exact ⟨vp_in_nI (by omega) (by decide), rfl, hM⟩
  · refine Agr.same hS hT (-101) ?_ ?_
    · unfold J_X5_isShut
      exact C_usr_f g hX.1 h (y0 ⟨rfl, hX⟩)
    · unfold J_X6_isShut
      exact R_usr_f g hM.1 h (z0 ⟨rfl, hM⟩)
theorem FrM.dist {ρ' : Mem} (h : ∀ o : Oid, o.1 ≠ 6 → o.1 ≠ 7 → o.1 ≠ 8 → o.1 ≠ 9 → ρ' o = ρ o) : FrM ρ ρ' := FrM.of (fun o _ _ a b c e _ => h o a b c e)
theorem P_asks (hS : IS T d b ds n t) (hT : T + 48 ≤ 30000) (hX : WX σ d b ds n t) (hM : WM ρ d b ds n t) (x : Int32) : Agr (T + 48) (J_X5_asks x σ) (J_X6_asks x ρ) := by
  have g := hS.geo
  have hn := g.nu
  by_cases h : Rng 0 (d 2) x
  · obtain ⟨v, -, hv, rfl⟩ := id h
    refine Agr.same hS hT (nI (ask d v)) ?_ ?_
    · unfold J_X5_asks
      exact C_usr_t g hX.1 h (y1 (C_userInTurn hS.1 hX.1 (C_unitsAsked hS.1 hX.1 hv ⟨rfl, hX⟩)))
    · unfold J_X6_asks
      refine R_usr_t g hM.1 h (y1 (R_findAsked hS.1 hM.1 (fun τ' hf hA => ⟨vp_in_nI (by omega) (by decide), ?_⟩)))
      rw [nI_clamp (by omega), hA v hv]
      exact ⟨rfl, hM.fr (FrM.dist (fun o a _ _ _ => hf o a)) (hM.1.row (hf _ (by decide)))⟩
  · refine Agr.same hS hT (-101) ?_ ?_
    · unfold J_X5_asks
      exact C_usr_f g hX.1 h (y0 ⟨rfl, hX⟩)
    · unfold J_X6_asks
      exact R_usr_f g hM.1 h (y0 ⟨rfl, hM⟩)
theorem P_gets (hS : IS T d b ds n t) (hT : T + 48 ≤ 30000) (hX : WX σ d b ds n t) (hM : WM ρ d b ds n t) (x : Int32) : Agr (T + 48) (J_X5_gets x σ) (J_X6_gets x ρ) := by
  have g := hS.geo
  have hn := g.nu
  by_cases h : Rng 0 (d 2) x
  · obtain ⟨v, -, hv, rfl⟩ := id h
    refine Agr.same hS hT (nI (amt d v)) ?_ ?_
    · unfold J_X5_gets
      refine C_usr_t g hX.1 h (y1 (C_distribute hS.1 hX.1 (fun τ' hf hv' hF => ⟨vp_in_nI (by omega) (by decide), ?_⟩)))
      rw [nI_clamp (by omega), hF.2.1 v hv]
      exact ⟨rfl, hX.fr1 (FrJ.of_fl hf)⟩
    · unfold J_X6_gets
      refine R_usr_t g hM.1 h (y1 (R_distributes hS.1 hM.1 (fun τ' hf h6 h7 h8 h9 => ⟨vp_in_nI (by omega) (by decide), ?_⟩)))
      rw [nI_clamp (by omega), h7 v hv]
      exact ⟨rfl, hM.fr (FrM.dist hf) (hM.1.row (hf _ (by decide) (by decide) (by decide) (by decide)))⟩
  · refine Agr.same hS hT (-101) ?_ ?_
    · unfold J_X5_gets
      exact C_usr_f g hX.1 h (y0 ⟨rfl, hX⟩)
    · unfold J_X6_gets
      exact R_usr_f g hM.1 h (y0 ⟨rfl, hM⟩)
theorem P_inflow (hS : IS T d b ds n t) (hT : T + 48 ≤ 30000) (hX : WX σ d b ds n t) (hM : WM ρ d b ds n t) (x : Int32) : Agr (T + 48) (J_X5_inflow x σ) (J_X6_inflow x ρ) := by
  have g := hS.geo
  have hn := g.nd
  by_cases h : Rng 0 (d 1) x
  · obtain ⟨v, -, hv, rfl⟩ := id h
    refine Agr.same hS hT (nI (FF d (amt d) v)) ?_ ?_
    · unfold J_X5_inflow
      refine C_dit_t g hX.1 h (y1 (C_distribute hS.1 hX.1 (fun τ' hf hv' hF => ⟨vp_in_nI (by omega) (by decide), ?_⟩)))
      rw [nI_clamp (by omega), hF.2.2.1 v hv]
      exact ⟨rfl, hX.fr1 (FrJ.of_fl hf)⟩
    · unfold J_X6_inflow
      refine R_dit_t g hM.1 h (y1 (R_distributes hS.1 hM.1 (fun τ' hf h6 h7 h8 h9 => ⟨vp_in_nI (by omega) (by decide), ?_⟩)))
      rw [nI_clamp (by omega), h8 v hv]
      exact ⟨rfl, hM.fr (FrM.dist hf) (hM.1.row (hf _ (by decide) (by decide) (by decide) (by decide)))⟩
  · refine Agr.same hS hT (-101) ?_ ?_
    · unfold J_X5_inflow
      exact C_dit_f g hX.1 h (y0 ⟨rfl, hX⟩)
    · unfold J_X6_inflow
      exact R_dit_f g hM.1 h (y0 ⟨rfl, hM⟩)
theorem P_loses (hS : IS T d b ds n t) (hT : T + 48 ≤ 30000) (hX : WX σ d b ds n t) (hM : WM ρ d b ds n t) (x : Int32) : Agr (T + 48) (J_X5_loses x σ) (J_X6_loses x ρ) := by
  have g := hS.geo
  have hn := g.nd
  by_cases h : Rng 0 (d 1) x
  · obtain ⟨v, -, hv, rfl⟩ := id h
    refine Agr.same hS hT (nI (FF d (amt d) v) - nI (FP d (amt d) v)) ?_ ?_
    · unfold J_X5_loses
      refine C_dit_t g hX.1 h (y1 (C_distribute hS.1 hX.1 (fun τ' hf hv' hF => ?_)))
      unfold J_X1_lostIn
      rw [nI_clamp (by omega), hF.2.2.1 v hv, hF.2.2.2.1 v hv]
      exact ⟨vp_in_nI (by omega) (by decide), vp_in_nI (by omega) (by decide), rfl, hX.fr1 (FrJ.of_fl hf)⟩
    · unfold J_X6_loses
      refine R_dit_t g hM.1 h (y1 (R_distributes hS.1 hM.1 (fun τ' hf h6 h7 h8 h9 => ⟨vp_in_nI (by omega) (by decide), vp_in_nI (by omega) (by decide), ?_⟩)))
      rw [nI_clamp (by omega), h8 v hv, h9 v hv]
      exact ⟨rfl, hM.fr (FrM.dist hf) (hM.1.row (hf _ (by decide) (by decide) (by decide) (by decide)))⟩
  · refine Agr.same hS hT (-101) ?_ ?_
    · unfold J_X5_loses
      exact C_dit_f g hX.1 h (y0 ⟨rfl, hX⟩)
    · unfold J_X6_loses
      exact R_dit_f g hM.1 h (y0 ⟨rfl, hM⟩)
theorem R_puts {k x : Nat} {τ : Mem} {Q : Int32 → Mem → Prop} (hv : RepM τ d) (hk : k < 214) (hQ : ∀ τ' : Mem, τ' = mup τ (1, 0, 0) k (nI x) → RepM τ' (du d k x) → Q (nI (d k)) τ') : J_X6_puts (nI k) (nI x) τ Q := by
  unfold J_X6_puts
  rw [nI_clamp (by omega), hv k hk]
  refine ⟨vp_in_nI hk (by decide), ?_⟩
  rintro _ rfl
  exact ⟨vp_in_nI hk (by decide), fun τ' h => hQ τ' h (by rw [h]; exact hv.du k x)⟩
theorem FrM.m1 {τ : Mem} (h : FrM ρ τ) (k : Nat) (x : Int32) : FrM ρ (mup τ (1, 0, 0) k x) := FrM.mp (o := (1, 0, 0)) h (Or.inl rfl) k x
theorem P_setRule (hS : IS T d b ds n t) (hT : T + 48 ≤ 30000) (hX : WX σ d b ds n t) (hM : WM ρ d b ds n t) (x : Int32) : Agr (T + 48) (J_X5_setRule x σ) (J_X6_setRule x ρ) := by
  have g := hS.geo
  have hn := g.nu
  by_cases h : Rng 0 3 x
  · obtain ⟨v, -, hv, rfl⟩ := id h
    refine Agr.to hS (du d 3 v) (Inv.mk (g.s3 (by omega)) ((hS.1.cnt.up (by omega) hT).du hn (by omega))) (nI (d 3)) ?_ ?_
    · unfold J_X5_setRule
      refine C_in_t (lo := 0) (hi := 2) (by decide) h (y1 ?_)
      rw [hX.1.rl]
      rintro _ rfl _ rfl
      exact ⟨rfl, hX.fr0 (FrJ.rf.own (by decide) _ _) (hX.1.setR v)⟩
    · unfold J_X6_setRule
      refine R_in_t (lo := 0) (hi := 2) (by decide) h (z1 ?_)
      refine R_puts (k := 3) hM.1 (by decide) (fun τ' e hr => ⟨rfl, hM.fr ?_ hr⟩)
      rw [e]
      exact FrM.rf.m1 _ _
  · refine Agr.same hS hT (-102) ?_ ?_
    · unfold J_X5_setRule
      exact C_in_f (lo := 0) (hi := 2) (by decide) (by decide) h (y0 ⟨rfl, hX⟩)
    · unfold J_X6_setRule
      exact R_in_f (lo := 0) (hi := 2) (by decide) (by decide) h (z0 ⟨rfl, hM⟩)
theorem P_setFutile (hS : IS T d b ds n t) (hT : T + 48 ≤ 30000) (hX : WX σ d b ds n t) (hM : WM ρ d b ds n t) (x : Int32) : Agr (T + 48) (J_X5_setFutile x σ) (J_X6_setFutile x ρ) := by
  have g := hS.geo
  have hn := g.nu
  by_cases h : Rng 0 101 x
  · obtain ⟨v, -, hv, rfl⟩ := id h
    refine Agr.to hS (du d 4 v) (Inv.mk (g.s4 (by omega)) ((hS.1.cnt.up (by omega) hT).du hn (by omega))) (nI (d 4)) ?_ ?_
    · unfold J_X5_setFutile
      refine C_in_t (lo := 0) (hi := 100) (by decide) h (y1 ?_)
      rw [hX.1.ft]
      rintro _ rfl _ rfl
      exact ⟨rfl, hX.fr0 (FrJ.rf.own (by decide) _ _) (hX.1.setF v)⟩
    · unfold J_X6_setFutile
      refine R_in_t (lo := 0) (hi := 100) (by decide) h (z1 ?_)
      refine R_puts (k := 4) hM.1 (by decide) (fun τ' e hr => ⟨rfl, hM.fr ?_ hr⟩)
      rw [e]
      exact FrM.rf.m1 _ _
  · refine Agr.same hS hT (-102) ?_ ?_
    · unfold J_X5_setFutile
      exact C_in_f (lo := 0) (hi := 100) (by decide) (by decide) h (y0 ⟨rfl, hX⟩)
    · unfold J_X6_setFutile
      exact R_in_f (lo := 0) (hi := 100) (by decide) (by decide) h (z0 ⟨rfl, hM⟩)
theorem P_setTurn (hS : IS T d b ds n t) (hT : T + 48 ≤ 30000) (hX : WX σ d b ds n t) (hM : WM ρ d b ds n t) (x y : Int32) : Agr (T + 48) (J_X5_setTurn x y σ) (J_X6_setTurn x y ρ) := by
  have g := hS.geo
  have hn := g.nu
  have hN := g.nd
  by_cases h : Rng 0 (d 2) x
  · by_cases h2 : Rng 0 25 y
    · obtain ⟨u, -, hu, rfl⟩ := id h
      obtain ⟨v, -, hv, rfl⟩ := id h2
      refine Agr.to hS (du d (178 + u) v) (Inv.mk (g.s178 hu (by omega)) ((hS.1.cnt.up (by omega) hT).du hn (by omega))) (nI (d (178 + u))) ?_ ?_
      · unfold J_X5_setTurn
        refine C_usr_t g hX.1 h (y1 (C_in_t (lo := 0) (hi := 24) (by decide) h2 (y1 ⟨vp_in_nI (by omega) (by decide), ?_⟩)))
        rw [nI_clamp (by omega), hX.1.u9 hu]
        rintro _ rfl _ rfl
        exact ⟨rfl, hX.fr0 (FrJ.rf.own (by decide) _ _) (hX.1.setU (f := 9) hN hn hu (by decide) (by decide) v)⟩
      · unfold J_X6_setTurn
        refine R_usr_t g hM.1 h (y1 (R_in_t (lo := 0) (hi := 24) (by decide) h2 (z1 ?_)))
        rw [fa_lit 178, nI_add]
        refine R_puts hM.1 (by omega) (fun τ' e hr => ⟨rfl, hM.fr ?_ hr⟩)
        rw [e]
        exact FrM.rf.m1 _ _
    · refine Agr.same hS hT (-102) ?_ ?_
      · unfold J_X5_setTurn
        exact C_usr_t g hX.1 h (y1 (C_in_f (lo := 0) (hi := 24) (by decide) (by decide) h2 (y0 ⟨rfl, hX⟩)))
      · unfold J_X6_setTurn
        exact R_usr_t g hM.1 h (y1 (R_in_f (lo := 0) (hi := 24) (by decide) (by decide) h2 (z0 ⟨rfl, hM⟩)))
  · refine Agr.same hS hT (-101) ?_ ?_
    · unfold J_X5_setTurn
      exact C_usr_f g hX.1 h (y0 ⟨rfl, hX⟩)
    · unfold J_X6_setTurn
      exact R_usr_f g hM.1 h (y0 ⟨rfl, hM⟩)
end C1
