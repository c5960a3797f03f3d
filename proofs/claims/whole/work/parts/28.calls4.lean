/-! PART 28: calls: disputes -/
noncomputable def gnd (d : Dst) (o y : Nat) : Int32 := nI (amt (du d (202 + y) 1) o) - nI (amt d o)
noncomputable def jdd (d : Dst) (o y : Nat) : Int32 := @ite Int32 (ask d o ≤ amt d o) (Classical.propDecidable _) 0 (@ite Int32 (amt d y = 0) (Classical.propDecidable _) 0 (@ite Int32 (gnd d o y = 0) (Classical.propDecidable _) 1 (@ite Int32 (nI (d 4 * amt d y) ≤ 100 * gnd d o y) (Classical.propDecidable _) 2 1)))
section GJ
variable {T : Nat} {d : Dst}
theorem shut_inv (hI : Inv T d) {y : Nat} (hy : y < d 2) : Inv T (du d (202 + y) 1) := Inv.mk (hI.geo.s202 hy (Nat.le_refl _)) (hI.cnt.du hI.geo.nu (by omega))
theorem C_gainOf {σ : Mem} {o y : Nat} {Q : Int32 → Mem → Prop} (hI : Inv T d) (hv : RepX σ 0 d) (ho : o < d 2) (hy : y < d 2) (hQ : ∀ σ' : Mem, FrJ 1 σ σ' → Q (gnd d o y) σ') : J_X5_gainOf (nI o) (nI y) σ Q := by
  have g := hI.geo
  have hn := g.nu
  have hN := g.nd
  unfold J_X5_gainOf
  refine C_distribute hI hv (fun τ1 hf1 hv1 hF1 => ⟨vp_in_nI (by omega) (by decide), ?_⟩)
  rw [nI_clamp (by omega), hF1.2.1 o ho]
  rintro _ rfl
  refine C_copyFrom g (by decide) hv1 (fun τ4 hf4 hv4 => ⟨vp_in_nI (by omega) (by decide), ?_⟩)
  rw [nI_clamp (by omega)]
  rintro _ rfl
  have h6 : RepX _ 1 (du d (202 + y) 1) := hv4.setU (f := 11) hN hn hy (by decide) (by decide) 1
  have e2 : du d (202 + y) 1 2 = d 2 := du_ne _ _ (by omega)
  refine C_distribute (shut_inv hI hy) h6 (fun τ7 hf7 hv7 hF7 => ⟨vp_in_nI (by omega) (by decide), ?_⟩)
  rw [hF7.2.1 o (by rw [e2]; exact ho)]
  refine hQ τ7 (FrJ.tr (FrJ.tr (FrJ.of_fl hf1) (hf4.up (k := 14) (by decide) _ _).fj) (FrJ.of_fl hf7))
theorem C_judge {σ : Mem} {o y : Nat} {Q : Int32 → Mem → Prop} (hI : Inv T d) (hv : RepX σ 0 d) (ho : o < d 2) (hy : y < d 2) (hQ : ∀ σ' : Mem, FrJ 1 σ σ' → Q (jdd d o y) σ') : J_X5_judge (nI o) (nI y) σ Q := by
  have g := hI.geo
  have hn := g.nu
  have hok := amt_ok hI.1 g.2.2.2.2.2.2.2.2
  have hao := hok.2 o ho
  have hay := hok.2 y hy
  have hso := ask_le (hI.2.2.2.2.2.2.2.2.2.2.1 o ho)
  have hsy := ask_le (hI.2.2.2.2.2.2.2.2.2.2.1 y hy)
  unfold J_X5_judge
  refine C_distribute hI hv (fun τ1 hf1 hv1 hF1 => ⟨vp_in_nI (by omega) (by decide), ?_⟩)
  rw [nI_clamp (by omega), hF1.2.1 y hy]
  rintro _ rfl
  unfold J_X1_isContent
  rw [nI_clamp (by omega), hF1.2.1 o ho, hF1.1 o ho]
  refine ⟨vp_in_nI (by omega) (by decide), vp_in_nI (by omega) (by decide), ?_⟩
  unfold jdd at hQ
  refine br_ne (by omega) (by omega) (fun h => ?_) (fun h => ?_)
  · rw [if_pos (by omega)] at hQ
    exact y1 (hQ τ1 (FrJ.of_fl hf1))
  · rw [if_neg (by omega)] at hQ
    refine y0 ?_
    rw [fa_lit 0]
    refine br_ne (by omega) (by omega) (fun h2 => ?_) (fun h2 => ?_)
    · rw [if_pos h2] at hQ
      exact hQ τ1 (FrJ.of_fl hf1)
    · rw [if_neg h2] at hQ
      refine C_gainOf hI hv1 ho hy (fun τ7 hf7 => ?_)
      have hfr : FrJ 1 σ τ7 := (FrJ.of_fl hf1).tr hf7
      have e4 : τ7 (7, 0, 0) 8 = nI (d 4) := by rw [hf7 _ (by decide) (by decide) (by decide) (by decide)]; exact hv1.ft
      rw [e4, pk_mul]
      by_cases h3 : gnd d o y = 0
      · rw [if_pos h3] at hQ
        exact i1 h3 (hQ τ7 hfr)
      · rw [if_neg h3] at hQ
        refine i0 h3 ⟨fun h4 => ?_, fun h4 => ?_⟩
        · rw [if_pos h4] at hQ
          exact hQ τ7 hfr
        · rw [if_neg h4] at hQ
          exact hQ τ7 hfr
theorem R_gainOf {ρ : Mem} {o y : Nat} {Q : Int32 → Mem → Prop} (hI : Inv T d) (hv : RepM ρ d) (ho : o < d 2) (hy : y < d 2) (hQ : ∀ ρ' : Mem, FrM ρ ρ' → RepM ρ' d → Q (gnd d o y) ρ') : J_X6_gainOf (nI o) (nI y) ρ Q := by
  have g := hI.geo
  have hn := g.nu
  unfold J_X6_gainOf
  refine R_distributes hI hv (fun τ1 hf1 h6 h7 h8 h9 => ⟨vp_in_nI (by omega) (by decide), ?_⟩)
  rw [nI_clamp (by omega), h7 o ho]
  rintro _ rfl
  have hv1 : RepM τ1 d := hv.row (hf1 _ (by decide) (by decide) (by decide) (by decide))
  rw [fa_lit 202, nI_add]
  refine R_puts (x := 1) hv1 (by omega) (fun τ4 e4 hr4 => ?_)
  have e2 : du d (202 + y) 1 2 = d 2 := du_ne _ _ (by omega)
  refine R_distributes (shut_inv hI hy) hr4 (fun τ5 hf5 q6 q7 q8 q9 => ⟨vp_in_nI (by omega) (by decide), ?_⟩)
  rw [nI_clamp (by omega)]
  rintro _ rfl
  have hr5 : RepM τ5 (du d (202 + y) 1) := hr4.row (hf5 _ (by decide) (by decide) (by decide) (by decide))
  have hr7 := hr5.du (202 + y) (d (202 + y))
  rw [du_du, du_id] at hr7
  have e7 : mup τ5 (1, 0, 0) (202 + y) (nI (d (202 + y))) (7, 0, 0) o = nI (amt (du d (202 + y) 1) o) := by
    rw [mup_ne _ _ _ (by decide)]
    exact q7 o (by rw [e2]; exact ho)
  rw [e7]
  refine ⟨vp_in_nI (by omega) (by decide), hQ _ (FrM.m1 (FrM.tr (FrM.dist hf1) (FrM.tr (by rw [e4]; exact FrM.rf.m1 _ _) (FrM.dist hf5))) _ _) hr7⟩
theorem i32_nlt {x y : Int32} (h : ¬ x < y) : y ≤ x := by
  rw [Int32.lt_iff_toInt_lt] at h
  rw [Int32.le_iff_toInt_le]
  omega
theorem i32_nle {x y : Int32} (h : x < y) : ¬ y ≤ x := by
  rw [Int32.lt_iff_toInt_lt] at h
  rw [Int32.le_iff_toInt_le]
  omega
theorem R_judged {ρ : Mem} {o y : Nat} {Q : Int32 → Mem → Prop} (hI : Inv T d) (hv : RepM ρ d) (ho : o < d 2) (hy : y < d 2) (hQ : ∀ ρ' : Mem, FrM ρ ρ' → RepM ρ' d → Q (jdd d o y) ρ') : J_X6_judged (nI o) (nI y) ρ Q := by
  have g := hI.geo
  have hn := g.nu
  have hok := amt_ok hI.1 g.2.2.2.2.2.2.2.2
  have hao := hok.2 o ho
  have hay := hok.2 y hy
  have hso := ask_le (hI.2.2.2.2.2.2.2.2.2.2.1 o ho)
  have hsy := ask_le (hI.2.2.2.2.2.2.2.2.2.2.1 y hy)
  unfold J_X6_judged
  refine R_distributes hI hv (fun τ1 hf1 h6 h7 h8 h9 => ⟨vp_in_nI (by omega) (by decide), ?_⟩)
  have hv1 : RepM τ1 d := hv.row (hf1 _ (by decide) (by decide) (by decide) (by decide))
  rw [nI_clamp (by omega), nI_clamp (by omega), h7 y hy, h7 o ho, h6 o ho]
  rintro _ rfl
  refine ⟨vp_in_nI (by omega) (by decide), vp_in_nI (by omega) (by decide), ?_⟩
  unfold jdd at hQ
  refine br_le (by omega) (by omega) (fun h => ?_) (fun h => ?_)
  · rw [if_pos h] at hQ
    exact hQ τ1 (FrM.dist hf1) hv1
  · rw [if_neg (by omega)] at hQ
    rw [fa_lit 0]
    refine br_ne (by omega) (by omega) (fun h2 => ?_) (fun h2 => ?_)
    · rw [if_pos h2] at hQ
      exact hQ τ1 (FrM.dist hf1) hv1
    · rw [if_neg h2] at hQ
      refine R_gainOf hI hv1 ho hy (fun τ8 hf8 hv8 => ?_)
      have hfr : FrM ρ τ8 := (FrM.dist hf1).tr hf8
      rw [hv8 4 (by decide), pk_mul]
      refine ⟨fun h4 => ?_, fun h4 => ⟨fun h3 => ?_, fun h3 => ?_⟩⟩
      · by_cases h3 : gnd d o y = 0
        · rw [if_pos h3] at hQ
          exact hQ τ8 hfr hv8
        · rw [if_neg h3, if_neg (i32_nle h4)] at hQ
          exact hQ τ8 hfr hv8
      · have h3' : ¬ gnd d o y = 0 := h3
        rw [if_neg h3', if_pos (i32_nlt h4)] at hQ
        exact hQ τ8 hfr hv8
      · have h3' : gnd d o y = 0 := h3
        rw [if_pos h3'] at hQ
        exact hQ τ8 hfr hv8
theorem C_isYounger {σ : Mem} {j x y : Nat} {Q : Int32 → Mem → Prop} (hI : Inv T d) (hv : RepX σ j d) (hx : x < d 2) (hy : y < d 2) (h1 : older d y x → Q 1 σ) (h0 : ¬ older d y x → Q 0 σ) : J_X2_isYounger j (nI x) (nI y) σ Q := by
  have g := hI.geo
  have hn := g.nu
  have bx := (g.ug hx).1
  have bY := (g.ug hy).1
  unfold J_X2_isYounger
  rw [nI_clamp (by omega), nI_clamp (by omega), hv.u1 hx, hv.u1 hy]
  refine ⟨vp_in_nI (by omega) (by decide), ?_⟩
  rintro _ rfl
  refine ⟨vp_in_nI (by omega) (by decide), ?_⟩
  rintro _ rfl
  refine br_lt (by omega) (by omega) (fun h => h1 (Or.inl h)) (fun h => ?_)
  refine br_ne (by omega) (by omega) (fun h5 => ?_) (fun h5 => h0 (by rintro (z | z) <;> omega))
  refine br_le (by omega) (by omega) (fun h6 => h0 (by rintro (z | z) <;> omega)) (fun h6 => h1 (Or.inr ⟨h5.symm, h6⟩))
theorem R_older {ρ : Mem} {x y : Nat} {Q : Int32 → Mem → Prop} (hI : Inv T d) (hv : RepM ρ d) (hx : x < d 2) (hy : y < d 2) (h1 : older d x y → Q 1 ρ) (h0 : ¬ older d x y → Q 0 ρ) : J_X6_isOlder (nI x) (nI y) ρ Q := by
  refine R_isOlder hI hv hx hy ?_
  by_cases h : older d x y
  · rw [if_pos h]; exact h1 h
  · rw [if_neg h]; exact h0 h
end GJ
section C5
variable {T : Nat} {σ ρ : Mem} {d : Dst} {b : Nat → Nat} {ds : Nat → Dst} {n : Nat} {t : Nat → Nat}
theorem P_gain (hS : IS T d b ds n t) (hT : T + 48 ≤ 30000) (hX : WX σ d b ds n t) (hM : WM ρ d b ds n t) (x y : Int32) : Agr (T + 48) (J_X5_gain x y σ) (J_X6_gain x y ρ) := by
  have g := hS.geo
  have hn := g.nu
  by_cases h : Rng 0 (d 2) x
  · by_cases h2 : Rng 0 (d 2) y
    · obtain ⟨u, -, hu, rfl⟩ := id h
      obtain ⟨v, -, hv, rfl⟩ := id h2
      by_cases h3 : older d u v
      · refine Agr.same hS hT (gnd d u v) ?_ ?_
        · unfold J_X5_gain
          exact C_usr_t g hX.1 h (z1 (C_usr_t g hX.1 h2 (y1 (C_isYounger hS.1 hX.1 hv hu (fun _ => y1 (C_gainOf hS.1 hX.1 hu hv (fun σ' hf => ⟨rfl, hX.fr1 hf⟩))) (fun q => absurd h3 q)))))
        · unfold J_X6_gain
          exact R_usr_t g hM.1 h (z1 (R_usr_t g hM.1 h2 (y1 (R_older hS.1 hM.1 hu hv (fun _ => z1 (R_gainOf hS.1 hM.1 hu hv (fun ρ' hf hr => ⟨rfl, hM.fr hf hr⟩))) (fun q => absurd h3 q)))))
      · refine Agr.same hS hT (-103) ?_ ?_
        · unfold J_X5_gain
          exact C_usr_t g hX.1 h (z1 (C_usr_t g hX.1 h2 (y1 (C_isYounger hS.1 hX.1 hv hu (fun q => absurd q h3) (fun _ => y0 ⟨rfl, hX⟩)))))
        · unfold J_X6_gain
          exact R_usr_t g hM.1 h (z1 (R_usr_t g hM.1 h2 (y1 (R_older hS.1 hM.1 hu hv (fun q => absurd q h3) (fun _ => z0 ⟨rfl, hM⟩)))))
    · refine Agr.same hS hT (-101) ?_ ?_
      · unfold J_X5_gain
        exact C_usr_t g hX.1 h (z1 (C_usr_f g hX.1 h2 (y0 ⟨rfl, hX⟩)))
      · unfold J_X6_gain
        exact R_usr_t g hM.1 h (z1 (R_usr_f g hM.1 h2 (y0 ⟨rfl, hM⟩)))
  · refine Agr.same hS hT (-101) ?_ ?_
    · unfold J_X5_gain
      exact C_usr_f g hX.1 h (z0 ⟨rfl, hX⟩)
    · unfold J_X6_gain
      exact R_usr_f g hM.1 h (z0 ⟨rfl, hM⟩)
theorem P_complaint (hS : IS T d b ds n t) (hT : T + 48 ≤ 30000) (hX : WX σ d b ds n t) (hM : WM ρ d b ds n t) (x y : Int32) : Agr (T + 48) (J_X5_complaint x y σ) (J_X6_complaint x y ρ) := by
  have g := hS.geo
  have hn := g.nu
  by_cases h : Rng 0 (d 2) x
  · by_cases h2 : Rng 0 (d 2) y
    · obtain ⟨u, -, hu, rfl⟩ := id h
      obtain ⟨v, -, hv, rfl⟩ := id h2
      by_cases h3 : older d u v
      · refine Agr.same hS hT (jdd d u v) ?_ ?_
        · unfold J_X5_complaint
          exact C_usr_t g hX.1 h (z1 (C_usr_t g hX.1 h2 (y1 (C_isYounger hS.1 hX.1 hv hu (fun _ => y1 (C_judge hS.1 hX.1 hu hv (fun σ' hf => ⟨rfl, hX.fr1 hf⟩))) (fun q => absurd h3 q)))))
        · unfold J_X6_complaint
          exact R_usr_t g hM.1 h (z1 (R_usr_t g hM.1 h2 (y1 (R_older hS.1 hM.1 hu hv (fun _ => z1 (R_judged hS.1 hM.1 hu hv (fun ρ' hf hr => ⟨rfl, hM.fr hf hr⟩))) (fun q => absurd h3 q)))))
      · refine Agr.same hS hT (-103) ?_ ?_
        · unfold J_X5_complaint
          exact C_usr_t g hX.1 h (z1 (C_usr_t g hX.1 h2 (y1 (C_isYounger hS.1 hX.1 hv hu (fun q => absurd q h3) (fun _ => y0 ⟨rfl, hX⟩)))))
        · unfold J_X6_complaint
          exact R_usr_t g hM.1 h (z1 (R_usr_t g hM.1 h2 (y1 (R_older hS.1 hM.1 hu hv (fun q => absurd q h3) (fun _ => z0 ⟨rfl, hM⟩)))))
    · refine Agr.same hS hT (-101) ?_ ?_
      · unfold J_X5_complaint
        exact C_usr_t g hX.1 h (z1 (C_usr_f g hX.1 h2 (y0 ⟨rfl, hX⟩)))
      · unfold J_X6_complaint
        exact R_usr_t g hM.1 h (z1 (R_usr_f g hM.1 h2 (y0 ⟨rfl, hM⟩)))
  · refine Agr.same hS hT (-101) ?_ ?_
    · unfold J_X5_complaint
      exact C_usr_f g hX.1 h (z0 ⟨rfl, hX⟩)
    · unfold J_X6_complaint
      exact R_usr_f g hM.1 h (z0 ⟨rfl, hM⟩)
-- settle
noncomputable def stp (k r : Nat) (s : Dst × Nat) : Dst × Nat := @ite (Dst × Nat) (jdd s.1 (rkd s.1 k) (rkd s.1 r) = 2) (Classical.propDecidable _) (du s.1 (202 + rkd s.1 r) 1, s.2 + 1) s
noncomputable def inn (k : Nat) : Nat → Dst × Nat → Dst × Nat
  | 0, s => s
  | m + 1, s => if m ≤ k then s else inn k m (stp k m s)
noncomputable def outr (n : Nat) : Nat → Nat → Dst × Nat → Dst × Nat
  | 0, _, s => s
  | f + 1, k, s => outr n f (k + 1) (inn k n s)
theorem inn_le {k m : Nat} {s : Dst × Nat} (h : m ≤ k + 1) : inn k m s = s := by
  cases m with
  | zero => rfl
  | succ m => exact if_pos (by omega)
theorem inn_gt {k m : Nat} {s : Dst × Nat} (h : k < m) : inn k (m + 1) s = inn k m (stp k m s) := if_neg (by omega)
theorem du202 {m : Nat} (hn : d 2 ≤ 12) (h : m < d 2) : du d (202 + m) 1 2 = d 2 := du_ne _ _ (by omega)
theorem stp_inv {k m : Nat} {s : Dst × Nat} (hI : Inv T s.1) (hm : m < s.1 2) : Inv T (stp k m s).1 ∧ (stp k m s).1 2 = s.1 2 := by
  have g := hI.geo
  have hn := g.nu
  have a2 := (g.2.2.2.2.2.2.2.2 m hm).1
  unfold stp
  split
  · refine ⟨shut_inv hI a2, ?_⟩
    show du s.1 (202 + rkd s.1 m) 1 2 = _
    rw [du_ne _ _ (by omega)]
  · exact ⟨hI, rfl⟩
theorem inn_inv {k : Nat} : ∀ {m : Nat} {s : Dst × Nat}, Inv T s.1 → m ≤ s.1 2 → Inv T (inn k m s).1 ∧ (inn k m s).1 2 = s.1 2
  | 0, s, h, _ => ⟨h, rfl⟩
  | m + 1, s, h, hm => by
    by_cases q : m ≤ k
    · rw [inn_le (by omega)]
      exact ⟨h, rfl⟩
    · rw [inn_gt (by omega)]
      obtain ⟨a, b⟩ := stp_inv (k := k) h (by omega : m < s.1 2)
      obtain ⟨a', b'⟩ := inn_inv (k := k) (m := m) a (by omega)
      exact ⟨a', b'.trans b⟩
theorem outr_inv {n : Nat} : ∀ {f k : Nat} {s : Dst × Nat}, Inv T s.1 → s.1 2 = n → Inv T (outr n f k s).1
  | 0, _, s, h, _ => h
  | f + 1, k, s, h, hn => by
    obtain ⟨a, b⟩ := inn_inv (k := k) (m := n) h (by omega)
    exact outr_inv (f := f) (k := k + 1) a (b.trans hn)
theorem P_settle (hS : IS T d b ds n t) (hT : T + 48 ≤ 30000) (hX : WX σ d b ds n t) (hM : WM ρ d b ds n t) : Agr (T + 48) (J_X5_settle σ) (J_X6_settle ρ) := by
  have hn := hS.geo.nu
  obtain ⟨F, hF⟩ : ∃ F : Dst × Nat, F = outr (d 2) (d 2) 0 (d, 0) := ⟨_, rfl⟩
  -- the class
  have c1 : ∀ Q : Int32 → Mem → Prop, (∀ σ' : Mem, Inv T F.1 → WX σ' F.1 b ds n t → Q (nI F.2) σ') → J_X5_settle σ Q := by
    intro Q hQ
    unfold J_X5_settle
    refine lpAM (d 2) (by omega) (fun k y τ' => ∃ s : Dst × Nat, Inv T s.1 ∧ s.1 2 = d 2 ∧ WX τ' s.1 b ds n t ∧ y = nI s.2 ∧ outr (d 2) (d 2 - k) k s = F) ⟨(d, 0), hS.1, rfl, hX, rfl, hF.symm⟩ (fun k y τ1 I μ hk hP next => ?_)
    obtain ⟨s, hI, hs2, hX1, rfl, ho⟩ := hP
    rw [hX1.1.nu, hs2]
    refine br_le (by omega) (by omega) (fun hle => ?_) (fun hlt => ?_)
    · have : k = d 2 := by omega
      subst this
      rw [Nat.sub_self] at ho
      have : s = F := ho
      subst this
      exact hQ τ1 hI hX1
    · rintro _ rfl
      have ho2 : outr (d 2) (d 2 - (k + 1)) (k + 1) (inn k (d 2) s) = F := by
        rw [show d 2 - k = (d 2 - (k + 1)) + 1 by omega] at ho
        exact ho
      refine ⟨fun y x τ' => ∃ (m : Nat) (s' : Dst × Nat), m ≤ d 2 ∧ k < m ∧ x = dI m ∧ Inv T s'.1 ∧ s'.1 2 = d 2 ∧ WX τ' s'.1 b ds n t ∧ y = nI s'.2 ∧ inn k m s' = inn k (d 2) s, fun _ x _ => (x + 1).toNatClampNeg, ⟨d 2, s, Nat.le_refl _, hlt, rfl, hI, hs2, hX1, rfl, rfl⟩, ?_⟩
      rintro y x τ4 ⟨m, s', hm, hkm, rfl, hI', hs2', hX4, rfl, hinn⟩
      have g' := hI'.geo
      obtain ⟨m, rfl⟩ : ∃ m', m = m' + 1 := ⟨m - 1, by omega⟩
      rw [dI_succ]
      refine br_le (by omega) (by omega) (fun hle => ?_) (fun hgt => ?_)
      · rintro _ rfl
        rw [nI_1]
        refine next hlt _ _ ⟨s', hI', hs2', hX4, rfl, ?_⟩
        rw [← ho2, ← hinn, inn_le (by omega)]
      · rw [nI_clamp (by omega), nI_clamp (by omega), hX4.1.rk (by omega : k < s'.1 2), hX4.1.rk (by omega : m < s'.1 2)]
        refine ⟨vp_in_nI (by omega) (by decide), vp_in_nI (by omega) (by decide), ?_⟩
        have hR := g'.2.2.2.2.2.2.2.2
        have a1 := (hR k (by omega)).1
        have a2 := (hR m (by omega)).1
        rw [inn_gt hgt] at hinn
        have hμ : (nI m + -1 + 1).toNatClampNeg < (nI m + 1).toNatClampNeg := by
          obtain ⟨m', rfl⟩ : ∃ m', m = m' + 1 := ⟨m - 1, by omega⟩
          rw [pk_m1, nI_1, nI_1, nI_clamp (by omega), nI_clamp (by omega)]
          omega
        refine C_judge hI' hX4.1 a1 a2 (fun τ9 hf9 => ⟨fun hj => ?_, fun hj => ?_⟩)
        · rintro _ rfl
          refine ⟨⟨m, s', by omega, hgt, nI_m1 m, hI', hs2', hX4.fr1 hf9, rfl, ?_⟩, hμ⟩
          have hj' : ¬ jdd s'.1 (rkd s'.1 k) (rkd s'.1 m) = 2 := hj
          unfold stp at hinn
          rw [if_neg hj'] at hinn
          exact hinn
        · have hX9 := hX4.fr1 hf9
          rw [hX9.1.rk (by omega : m < s'.1 2), nI_clamp (by omega)]
          refine ⟨vp_in_nI (by omega) (by decide), vp_in_nI (by omega) (by decide), ?_⟩
          rintro _ rfl _ rfl _ rfl
          have hj' : jdd s'.1 (rkd s'.1 k) (rkd s'.1 m) = 2 := hj
          unfold stp at hinn
          rw [if_pos hj'] at hinn
          rw [nI_1]
          refine ⟨⟨m, (du s'.1 (202 + rkd s'.1 m) 1, s'.2 + 1), by omega, hgt, nI_m1 m, shut_inv hI' a2, ?_, ?_, rfl, hinn⟩, hμ⟩
          · show du s'.1 (202 + rkd s'.1 m) 1 2 = d 2
            rw [du_ne _ _ (by omega)]
            exact hs2'
          · exact hX9.fr0 (FrJ.rf.own (by decide) _ _) (hX9.1.setU (f := 11) g'.nd g'.nu a2 (by decide) (by decide) 1)
  have c2 : ∀ Q : Int32 → Mem → Prop, (∀ ρ' : Mem, WM ρ' F.1 b ds n t → Q (nI F.2) ρ') → J_X6_settle ρ Q := by
    intro Q hQ
    unfold J_X6_settle
    refine lpAM (d 2) (by omega) (fun k y τ' => ∃ s : Dst × Nat, Inv T s.1 ∧ s.1 2 = d 2 ∧ WM τ' s.1 b ds n t ∧ y = nI s.2 ∧ outr (d 2) (d 2 - k) k s = F) ⟨(d, 0), hS.1, rfl, hM, rfl, hF.symm⟩ (fun k y τ1 I μ hk hP next => ?_)
    obtain ⟨s, hI, hs2, hX1, rfl, ho⟩ := hP
    rw [hX1.1 2 (by decide), hs2]
    refine br_le (by omega) (by omega) (fun hle => ?_) (fun hlt => ?_)
    · have : k = d 2 := by omega
      subst this
      rw [Nat.sub_self] at ho
      have : s = F := ho
      subst this
      exact hQ τ1 hX1
    · rintro _ rfl
      have ho2 : outr (d 2) (d 2 - (k + 1)) (k + 1) (inn k (d 2) s) = F := by
        rw [show d 2 - k = (d 2 - (k + 1)) + 1 by omega] at ho
        exact ho
      refine ⟨fun y x τ' => ∃ (m : Nat) (s' : Dst × Nat), m ≤ d 2 ∧ k < m ∧ x = dI m ∧ Inv T s'.1 ∧ s'.1 2 = d 2 ∧ WM τ' s'.1 b ds n t ∧ y = nI s'.2 ∧ inn k m s' = inn k (d 2) s, fun _ x _ => (x + 1).toNatClampNeg, ⟨d 2, s, Nat.le_refl _, hlt, rfl, hI, hs2, hX1, rfl, rfl⟩, ?_⟩
      rintro y x τ4 ⟨m, s', hm, hkm, rfl, hI', hs2', hX4, rfl, hinn⟩
      have g' := hI'.geo
      obtain ⟨m, rfl⟩ : ∃ m', m = m' + 1 := ⟨m - 1, by omega⟩
      rw [dI_succ]
      refine br_le (by omega) (by omega) (fun hle => ?_) (fun hgt => ?_)
      · rintro _ rfl
        rw [nI_1]
        refine next hlt _ _ ⟨s', hI', hs2', hX4, rfl, ?_⟩
        rw [← ho2, ← hinn, inn_le (by omega)]
      · have hR := g'.2.2.2.2.2.2.2.2
        have a1 := (hR k (by omega)).1
        have a2 := (hR m (by omega)).1
        refine R_rank hI' hX4.1 (by omega : m < s'.1 2) (R_rank hI' hX4.1 (by omega : k < s'.1 2) ?_)
        rw [inn_gt hgt] at hinn
        have hμ : (nI m + -1 + 1).toNatClampNeg < (nI m + 1).toNatClampNeg := by
          obtain ⟨m', rfl⟩ : ∃ m', m = m' + 1 := ⟨m - 1, by omega⟩
          rw [pk_m1, nI_1, nI_1, nI_clamp (by omega), nI_clamp (by omega)]
          omega
        refine R_judged hI' hX4.1 a1 a2 (fun τ9 hf9 hv9 => ⟨fun hj => ?_, fun hj => ?_⟩)
        · rintro _ rfl
          refine ⟨⟨m, s', by omega, hgt, nI_m1 m, hI', hs2', hX4.fr hf9 hv9, rfl, ?_⟩, hμ⟩
          have hj' : ¬ jdd s'.1 (rkd s'.1 k) (rkd s'.1 m) = 2 := hj
          unfold stp at hinn
          rw [if_neg hj'] at hinn
          exact hinn
        · rw [fa_lit 202, nI_add, nI_clamp (by omega)]
          refine ⟨vp_in_nI (by omega) (by decide), ?_⟩
          rintro _ rfl _ rfl _ rfl
          have hj' : jdd s'.1 (rkd s'.1 k) (rkd s'.1 m) = 2 := hj
          unfold stp at hinn
          rw [if_pos hj'] at hinn
          rw [nI_1]
          refine ⟨⟨m, (du s'.1 (202 + rkd s'.1 m) 1, s'.2 + 1), by omega, hgt, nI_m1 m, shut_inv hI' a2, ?_, ?_, rfl, hinn⟩, hμ⟩
          · show du s'.1 (202 + rkd s'.1 m) 1 2 = d 2
            rw [du_ne _ _ (by omega)]
            exact hs2'
          · exact hX4.fr (hf9.m1 _ _) (hv9.du (202 + rkd s'.1 m) 1)
  have hIF : Inv T F.1 := by rw [hF]; exact outr_inv (s := (d, 0)) hS.1 rfl
  exact Agr.to hS F.1 (hIF.up (by omega) hT) (nI F.2) (c1 _ (fun σ' _ h => ⟨rfl, h⟩)) (c2 _ (fun ρ' h => ⟨rfl, h⟩))
end C5
