/-! PART 29: calls: limit, leastSupply, usefulGate -/
/-- the first ditch on the way down from w that has too much -/
def lmf (d : Dst) (a : Nat → Nat) : Nat → Nat → Int32
  | 0, _ => -105
  | f + 1, w => if d (50 + w) < FF d a w then nI w else lmf d a f (d (40 + w))
theorem lmf_zero {d : Dst} {a : Nat → Nat} (h0 : d 40 = 0) (h : ¬ d 50 < FF d a 0) : ∀ f, lmf d a f 0 = -105
  | 0 => rfl
  | f + 1 => by
    show (if d (50 + 0) < FF d a 0 then nI 0 else lmf d a f (d (40 + 0))) = _
    rw [if_neg h, show d (40 + 0) = 0 from h0]
    exact lmf_zero h0 h f
section C6
variable {T : Nat} {σ ρ : Mem} {d : Dst} {b : Nat → Nat} {ds : Nat → Dst} {n : Nat} {t : Nat → Nat}
theorem FrJ.flow {j : Nat} {τ τ' : Mem} (h : FrJ j σ τ) (h' : ∀ o : Oid, o.1 ≠ 4 → o.1 ≠ 15 → τ' o = τ o) : FrJ j σ τ' := fun o q1 q2 q3 q4 => (h' o q2 q3).trans (h o q1 q2 q3 q4)
theorem P_limit (hS : IS T d b ds n t) (hT : T + 48 ≤ 30000) (hX : WX σ d b ds n t) (hM : WM ρ d b ds n t) (x : Int32) : Agr (T + 48) (J_X5_limit x σ) (J_X6_limit x ρ) := by
  have g := hS.geo
  have hn := g.nu
  have hN := g.nd
  have hI := hS.1
  have hTp := hI.1
  by_cases h : Rng 0 (d 2) x
  · obtain ⟨u, -, hu, rfl⟩ := id h
    have hok := amt_ok hTp g.2.2.2.2.2.2.2.2
    have hask : ∀ v, v < d 2 → ask d v ≤ 560 := fun v hv => ask_le (hI.2.2.2.2.2.2.2.2.2.2.1 v hv)
    have hau := hok.2 u hu
    have hsu := hask u hu
    by_cases hc : amt d u = ask d u
    · refine Agr.same hS hT (-103) ?_ ?_
      · unfold J_X5_limit
        refine C_usr_t g hX.1 h (y1 (C_distribute hI hX.1 (fun τ' hf hv' hF => ?_)))
        unfold J_X1_isContent
        rw [nI_clamp (by omega), hF.2.1 u hu, hF.1 u hu]
        exact ⟨vp_in_nI (by omega) (by decide), vp_in_nI (by omega) (by decide), br_ne (by omega) (by omega) (fun _ => z1 ⟨rfl, hX.fr1 (FrJ.of_fl hf)⟩) (fun q => absurd hc q)⟩
      · unfold J_X6_limit
        refine R_usr_t g hM.1 h (y1 (R_distributes hI hM.1 (fun τ' hf h6 h7 h8 h9 => ⟨vp_in_nI (by omega) (by decide), vp_in_nI (by omega) (by decide), ?_⟩)))
        rw [nI_clamp (by omega), h7 u hu, h6 u hu]
        exact br_lt (by omega) (by omega) (fun q => absurd q (by omega)) (fun _ => ⟨rfl, hM.fr (FrM.dist hf) (hM.1.row (hf _ (by decide) (by decide) (by decide) (by decide)))⟩)
    · have hlt : amt d u < ask d u := by omega
      obtain ⟨a, ha⟩ : ∃ a, a = au (amt d) u (amt d u + 1) := ⟨_, rfl⟩
      have hab : ∀ v, v < d 2 → a v ≤ 560 := by
        intro v hv
        rw [ha]
        unfold au
        have := hok.2 v hv
        have := hask v hv
        split <;> omega
      have hFF : ∀ k, k < d 1 → FF d a k ≤ 6881280 := fun k hk => FF_le hTp hN hn hab hk
      have hw := hTp.2.2.2.2 u hu
      refine Agr.same hS hT (lmf d a (d 1) (d (70 + u))) ?_ ?_
      · unfold J_X5_limit
        refine C_usr_t g hX.1 h (y1 (C_distribute hI hX.1 (fun τ3 hf3 hv3 hF => ?_)))
        unfold J_X1_isContent
        rw [nI_clamp (by omega), hF.2.1 u hu, hF.1 u hu]
        refine ⟨vp_in_nI (by omega) (by decide), vp_in_nI (by omega) (by decide), br_ne (by omega) (by omega) (fun q => absurd q hc) (fun _ => z0 ?_)⟩
        unfold J_X1_ditchAgainstOneMore
        rw [nI_clamp (by omega), hF.2.1 u hu, nI_1]
        refine ⟨vp_in_nI (by omega) (by decide), vp_in_nI (by omega) (by decide), ?_⟩
        rintro _ rfl
        have ha4 : Arr (mup τ3 (4, 1, 0) u (nI (amt d u + 1))) (4, 1, 0) (d 2) a := by
          rw [ha]
          exact hF.2.1.set _
        have hf4 : ∀ o : Oid, o.1 ≠ 3 → o.1 ≠ 4 → o.1 ≠ 15 → mup τ3 (4, 1, 0) u (nI (amt d u + 1)) o = σ o := fun o q1 q2 q3 => by rw [mup_o _ _ _ q2]; exact hf3 o q1 q2 q3
        refine C_spread hI (hX.1.fl hf4) ha4 hab (fun τ5 hf5 g5 g5' => ⟨vp_in_nI (by omega) (by decide), ?_⟩)
        have hf5' : ∀ o : Oid, o.1 ≠ 3 → o.1 ≠ 4 → o.1 ≠ 15 → τ5 o = σ o := fun o q1 q2 q3 => (hf5 o q3).trans (hf4 o q1 q2 q3)
        have hv5 := hX.1.fl hf5'
        have hX5 := hX.fr1 (FrJ.of_fl (j := 1) hf5')
        rw [hv5.u0 hu]
        rintro _ rfl
        refine ⟨fun x y => ∃ w k, w < d 1 ∧ k ≤ d 1 ∧ x = nI w ∧ y = nI k ∧ lmf d a (d 1 - k) w = lmf d a (d 1) (d (70 + u)), fun _ y => d 1 - y.toNatClampNeg, ⟨d (70 + u), 0, hw, Nat.zero_le _, rfl, rfl, rfl⟩, ?_⟩
        rintro x y ⟨w, k, hw1, hk, rfl, rfl, hl⟩
        rw [hv5.nd]
        refine br_le (by omega) (by omega) (fun hle => ?_) (fun hkl => ?_)
        · have : k = d 1 := by omega
          subst this
          rw [Nat.sub_self] at hl
          rw [← hl]
          exact ⟨rfl, hX5⟩
        · have hFw := hFF w hw1
          have hGw := (g.gt hw1).2
          rw [show d 1 - k = (d 1 - (k + 1)) + 1 by omega] at hl
          have hl' : (if d (50 + w) < FF d a w then nI w else lmf d a (d 1 - (k + 1)) (d (40 + w))) = lmf d a (d 1) (d (70 + u)) := hl
          rw [nI_clamp (by omega), g5 w hw1, hv5.ga hw1, hv5.pa hw1]
          refine ⟨vp_in_nI (by omega) (by decide), vp_in_nI (by omega) (by decide), br_le (by omega) (by omega) (fun q => ⟨vp_in_nI (by omega) (by decide), ?_⟩) (fun q => ?_)⟩
          · rintro _ rfl _ rfl
            rw [if_neg (by omega)] at hl'
            have hp : d (40 + w) < d 1 := by
              rcases Nat.eq_zero_or_pos w with z | z
              · rw [z, show d (40 + 0) = 0 from hTp.2.1]; exact hTp.1
              · have := hTp.2.2.1 w z hw1
                omega
            rw [nI_1]
            refine ⟨⟨d (40 + w), k + 1, hp, by omega, rfl, rfl, hl'⟩, ?_⟩
            show d 1 - (nI (k + 1)).toNatClampNeg < d 1 - (nI k).toNatClampNeg
            rw [nI_clamp (by omega), nI_clamp (by omega)]
            omega
          · rw [if_pos q] at hl'
            rw [← hl']
            exact ⟨rfl, hX5⟩
      · unfold J_X6_limit
        refine R_usr_t g hM.1 h (y1 (R_distributes hI hM.1 (fun τ3 hf3 h6 h7 h8 h9 => ⟨vp_in_nI (by omega) (by decide), vp_in_nI (by omega) (by decide), ?_⟩)))
        rw [nI_clamp (by omega), h7 u hu, h6 u hu]
        refine br_lt (by omega) (by omega) (fun _ => ⟨vp_in_nI (by omega) (by decide), vp_in_nI (by omega) (by decide), ?_⟩) (fun q => absurd hlt (by omega))
        rw [nI_1]
        rintro _ rfl
        have hv3 : RepM τ3 d := hM.1.row (hf3 _ (by decide) (by decide) (by decide) (by decide))
        have ha4 : Arr (mup τ3 (7, 0, 0) u (nI (amt d u + 1))) (7, 0, 0) (d 2) a := by
          rw [ha]
          exact h7.set _
        have hv4 : RepM (mup τ3 (7, 0, 0) u (nI (amt d u + 1))) d := hv3.row (mup_ne _ _ _ (by decide))
        refine R_isPossible hI hv4 ha4 hab (fun r τ5 hf5 h85 h95 _ => ?_)
        have hv5 : RepM τ5 d := hv4.row (hf5 _ (by decide) (by decide))
        have hM5 : WM τ5 d b ds n t := hM.fr ((FrM.dist hf3).tr (FrM.of (fun o q1 q2 q3 q4 q5 q6 q7 => by rw [hf5 o q5 q6, mup_o _ _ _ q4]))) hv5
        rw [fa_lit 70, nI_add, nI_clamp (by omega), hv5 (70 + u) (by omega)]
        refine ⟨vp_in_nI (by omega) (by decide), ?_⟩
        rintro _ rfl
        refine ⟨fun x => ∃ w f, w < d 1 ∧ w < f ∧ x = nI w ∧ lmf d a f w = lmf d a (d 1) (d (70 + u)), fun x => x.toNatClampNeg, ⟨d (70 + u), d 1, hw, hw, rfl, rfl⟩, ?_⟩
        rintro x ⟨w, f, hw1, hwf, rfl, hl⟩
        obtain ⟨f, rfl⟩ : ∃ f', f = f' + 1 := ⟨f - 1, by omega⟩
        have hFw := hFF w hw1
        have hGw := (g.gt hw1).2
        have hl' : (if d (50 + w) < FF d a w then nI w else lmf d a f (d (40 + w))) = lmf d a (d 1) (d (70 + u)) := hl
        have fin : (w = 0 ∨ d (50 + w) < FF d a w) → J_X6_limit_b93 (nI u) (nI w) τ5 (fun r' ρ' => r' = lmf d a (d 1) (d (70 + u)) ∧ WM ρ' d b ds n t) := by
          intro hz
          unfold J_X6_limit_b93
          rw [fa_lit 50, nI_add, nI_clamp (by omega), nI_clamp (by omega), h85 w hw1, hv5 (50 + w) (by omega)]
          refine ⟨vp_in_nI (by omega) (by decide), vp_in_nI (by omega) (by decide), br_le (by omega) (by omega) (fun q => ?_) (fun q => ?_)⟩
          · have hw0 : w = 0 := by omega
            subst hw0
            rw [if_neg (by omega), show d (40 + 0) = 0 from hTp.2.1, lmf_zero hTp.2.1 (by have h50 : d (50 + 0) = d 50 := rfl; omega)] at hl'
            exact ⟨hl', hM5⟩
          · rw [if_pos q] at hl'
            exact ⟨hl', hM5⟩
        rw [fa_lit 0]
        refine br_le (by omega) (by omega) (fun q => fin (Or.inl (by omega))) (fun q => ?_)
        rw [fa_lit 50, fa_lit 40, nI_add, nI_add, nI_clamp (by omega), nI_clamp (by omega), nI_clamp (by omega), h85 w hw1, hv5 (50 + w) (by omega), hv5 (40 + w) (by omega)]
        refine ⟨vp_in_nI (by omega) (by decide), vp_in_nI (by omega) (by decide), br_lt (by omega) (by omega) (fun z => fin (Or.inr z)) (fun z => ⟨vp_in_nI (by omega) (by decide), ?_⟩)⟩
        rintro _ rfl
        rw [if_neg (by omega)] at hl'
        have hp := hTp.2.2.1 w q hw1
        refine ⟨⟨d (40 + w), f, by omega, by omega, rfl, hl'⟩, ?_⟩
        show (nI (d (40 + w))).toNatClampNeg < (nI w).toNatClampNeg
        rw [nI_clamp (by omega), nI_clamp (by omega)]
        exact hp
  · refine Agr.same hS hT (-101) ?_ ?_
    · unfold J_X5_limit
      exact C_usr_f g hX.1 h (y0 ⟨rfl, hX⟩)
    · unfold J_X6_limit
      exact R_usr_f g hM.1 h (y0 ⟨rfl, hM⟩)
-- the least supply
noncomputable def sd (d : Dst) (k : Nat) : Dst := du d (12 + hr d) k
theorem sd_sd (d : Dst) (k m : Nat) : du (sd d k) (12 + hr d) m = sd d m := du_du _ _ _ _
theorem sd_id (d : Dst) : sd d (d (12 + hr d)) = d := du_id _ _
theorem sd_inv (hI : Inv T d) {k : Nat} (hk : k ≤ 200) : Inv T (sd d k) := by
  have hh := hr_lt d
  exact Inv.mk (hI.geo.s12 hh hk) (hI.cnt.du hI.geo.nu (by omega))
theorem P_leastSupply (hS : IS T d b ds n t) (hT : T + 48 ≤ 30000) (hX : WX σ d b ds n t) (hM : WM ρ d b ds n t) (x : Int32) : Agr (T + 48) (J_X5_leastSupply x σ) (J_X6_leastSupply x ρ) := by
  have g := hS.geo
  have hn := g.nu
  have hN := g.nd
  have hI := hS.1
  have hh := hr_lt d
  have hsup := g.sp hh
  by_cases h : Rng 0 (d 2) x
  · obtain ⟨u, -, hu, rfl⟩ := id h
    have e2 : ∀ k, sd d k 2 = d 2 := fun k => du_ne _ _ (by omega)
    have bnd : ∀ k, k ≤ 200 → amt (sd d k) u ≤ ask (sd d k) u ∧ ask (sd d k) u ≤ 560 := fun k hk => by
      have hIk := sd_inv hI hk
      have hu2 : u < sd d k 2 := by rw [e2]; exact hu
      exact ⟨(amt_ok hIk.1 hIk.geo.2.2.2.2.2.2.2.2).2 u hu2, ask_le (hIk.2.2.2.2.2.2.2.2.2.2.1 u hu2)⟩
    obtain ⟨v, hv, hno, hyes⟩ := first_h (fun k => ask (sd d k) u ≤ amt (sd d k) u) 201
    refine Agr.same hS hT (if v = 201 then -105 else nI v) ?_ ?_
    · unfold J_X5_leastSupply
      refine C_usr_t g hX.1 h (y1 (C_copyFrom g (by decide) hX.1 (fun τ3 hf3 hr3 => C_hour hI hr3 ?_)))
      refine lpM v (by omega) (fun k τ' => FrJ 1 σ τ' ∧ ∃ w, w ≤ 200 ∧ RepX τ' 1 (sd d w)) ⟨hf3.fj, d (12 + hr d), hsup, by rw [sd_id]; exact hr3⟩ (fun k τ5 I μ hk hP next => ?_)
      obtain ⟨hf, w, hw, hr⟩ := hP
      rw [fa_lit 200]
      refine br_lt (by omega) (by omega) (fun hle => ?_) (fun hle => ⟨vp_in_nI hh (by decide), ?_⟩)
      · rw [if_pos (by omega)]
        exact ⟨rfl, hX.fr1 hf⟩
      · rw [nI_clamp (by omega)]
        rintro _ rfl
        have hr8 := hr.setS (by rw [show sd d w 1 = d 1 from du_ne _ _ (by omega)]; exact hN) hh k
        rw [sd_sd] at hr8
        have hIk := sd_inv hI (k := k) (by omega)
        have hu2 : u < sd d k 2 := by rw [e2]; exact hu
        obtain ⟨b1, b2⟩ := bnd k (by omega)
        refine C_distribute hIk hr8 (fun τ9 hf9 hv9 hF9 => ?_)
        have hfr : FrJ 1 σ τ9 := (hf.own (k := 11) (by decide) _ _).tr (FrJ.of_fl hf9)
        unfold J_X1_isContent
        rw [nI_clamp (by omega), hF9.2.1 u hu2, hF9.1 u hu2]
        refine ⟨vp_in_nI (by omega) (by decide), vp_in_nI (by omega) (by decide), br_ne (by omega) (by omega) (fun q => z1 ?_) (fun q => z0 ?_)⟩
        · have : k = v := by
            rcases Nat.lt_or_ge k v with z | z
            · exact absurd (by show ask (sd d k) u ≤ amt (sd d k) u; omega) (hno k z)
            · omega
          subst this
          rw [if_neg (by omega)]
          exact ⟨rfl, hX.fr1 hfr⟩
        · have hkv : k < v := by
            rcases Nat.lt_or_ge k v with z | z
            · exact z
            · have : k = v := by omega
              subst this
              rcases hyes with z | z
              · omega
              · have z' : ask (sd d k) u ≤ amt (sd d k) u := z
                omega
          rintro _ rfl
          rw [nI_1]
          exact next hkv _ ⟨hfr, k, by omega, hv9⟩
    · unfold J_X6_leastSupply
      refine R_usr_t g hM.1 h (y1 (R_hour hI hM.1 ?_))
      rw [fa_lit 12, nI_add]
      rintro _ rfl
      rw [nI_clamp (by omega), hM.1 (12 + hr d) (by omega)]
      refine ⟨vp_in_nI (by omega) (by decide), ?_⟩
      rintro _ rfl
      have fin : ∀ (τ : Mem) (w : Nat), FrM ρ τ → RepM τ (sd d w) → WM (mup τ (1, 0, 0) (12 + hr d) (nI (d (12 + hr d)))) d b ds n t := by
        intro τ w hf hq
        have := hq.du (12 + hr d) (d (12 + hr d))
        rw [sd_sd, sd_id] at this
        exact hM.fr (hf.m1 _ _) this
      refine ⟨fun x4 x5 τ' => ∃ k, k ≤ 201 ∧ x5 = nI k ∧ FrM ρ τ' ∧ (∃ w, w ≤ 200 ∧ RepM τ' (sd d w)) ∧ ((x4 = -105 ∧ k ≤ v) ∨ (x4 = nI v ∧ v < 201 ∧ k = v + 1)), fun _ x5 _ => 201 - x5.toNatClampNeg, ⟨0, by decide, rfl, FrM.rf, ⟨d (12 + hr d), hsup, by rw [sd_id]; exact hM.1⟩, Or.inl ⟨rfl, Nat.zero_le _⟩⟩, ?_⟩
      rintro x4 x5 τ7 ⟨k, hk, rfl, hf, ⟨w, hw, hq⟩, hc⟩
      rw [fa_lit 200]
      refine br_lt (by omega) (by omega) (fun hle => ⟨vp_in_nI (by omega) (by decide), ?_⟩) (fun hle => ?_)
      · rintro _ rfl
        refine ⟨?_, fin τ7 w hf hq⟩
        rcases hc with ⟨q1, q2⟩ | ⟨q1, q2, q3⟩
        · rw [q1, if_pos (by omega)]
        · rw [q1, if_neg (by omega)]
      · rcases hc with ⟨rfl, q2⟩ | ⟨rfl, q2, q3⟩
        · refine i0 (by decide) ⟨vp_in_nI (by omega) (by decide), ?_⟩
          rintro _ rfl
          have hr8 := hq.du (12 + hr d) k
          rw [sd_sd] at hr8
          have hIk := sd_inv hI (k := k) (by omega)
          have hu2 : u < sd d k 2 := by rw [e2]; exact hu
          obtain ⟨b1, b2⟩ := bnd k (by omega)
          refine R_distributes hIk hr8 (fun τ9 hf9 h6 h7 h8 h9 => ⟨vp_in_nI (by omega) (by decide), vp_in_nI (by omega) (by decide), ?_⟩)
          have hr9 : RepM τ9 (sd d k) := hr8.row (hf9 _ (by decide) (by decide) (by decide) (by decide))
          have hfr : FrM ρ τ9 := (hf.m1 _ _).tr (FrM.dist hf9)
          rw [nI_clamp (by omega), h7 u hu2, h6 u hu2]
          have hμ : 201 - (nI (k + 1)).toNatClampNeg < 201 - (nI k).toNatClampNeg := by
            rw [nI_clamp (by omega), nI_clamp (by omega)]
            omega
          refine br_lt (by omega) (by omega) (fun q => ?_) (fun q => ?_)
          · rintro _ rfl
            rw [nI_1]
            have hkv : k < v := by
              rcases Nat.lt_or_ge k v with z | z
              · exact z
              · have : k = v := by omega
                subst this
                rcases hyes with z | z
                · omega
                · have z' : ask (sd d k) u ≤ amt (sd d k) u := z
                  omega
            exact ⟨⟨k + 1, by omega, rfl, hfr, ⟨k, by omega, hr9⟩, Or.inl ⟨rfl, hkv⟩⟩, hμ⟩
          · rintro _ rfl
            rw [nI_1]
            have : k = v := by
              rcases Nat.lt_or_ge k v with z | z
              · exact absurd (by show ask (sd d k) u ≤ amt (sd d k) u; omega) (hno k z)
              · omega
            subst this
            exact ⟨⟨k + 1, by omega, rfl, hfr, ⟨k, by omega, hr9⟩, Or.inr ⟨rfl, by omega, rfl⟩⟩, hμ⟩
        · refine i1 (nI_pos' (by omega)) ⟨vp_in_nI (by omega) (by decide), ?_⟩
          rintro _ rfl
          refine ⟨?_, fin τ7 w hf hq⟩
          rw [if_neg (by omega)]
  · refine Agr.same hS hT (-101) ?_ ?_
    · unfold J_X5_leastSupply
      exact C_usr_f g hX.1 h (y0 ⟨rfl, hX⟩)
    · unfold J_X6_leastSupply
      exact R_usr_f g hM.1 h (y0 ⟨rfl, hM⟩)
-- the useful gate
def gd (d : Dst) (i k : Nat) : Dst := du d (50 + i) k
noncomputable def tot (d : Dst) (i k : Nat) : Nat := sm (amt (gd d i k)) (d 2)
theorem gd_inv (hI : Inv T d) {i k : Nat} (hi : i < d 1) (h1 : 1 ≤ k) (hk : k ≤ 200) : Inv T (gd d i k) := by
  have := hI.geo.nd
  exact Inv.mk (hI.geo.s50 hi h1 hk) (hI.cnt.du hI.geo.nu (by omega))
theorem C_unitsGot {τ : Mem} {j : Nat} {a : Nat → Nat} {Q : Int32 → Mem → Prop} (g : Geo d) (hv : RepX τ j d) (ha : Arr τ (4, 1, 0) (d 2) a) (hQ : Q (nI (sm a (d 2))) τ) : J_X1_unitsGot j τ Q := by
  have hn := g.nu
  unfold J_X1_unitsGot
  refine lpA (d 2) (by omega) (fun k => nI (sm a k)) rfl (fun k I μ hk next => ?_)
  rw [hv.nu]
  refine br_le (by omega) (by omega) (fun hle => ?_) (fun hlt => ?_)
  · have : k = d 2 := by omega
    subst this
    exact hQ
  · rw [nI_clamp (by omega), ha k hlt, nI_add]
    refine ⟨vp_in_nI (by omega) (by decide), ?_⟩
    rintro _ rfl _ rfl
    rw [nI_1]
    exact next hlt
theorem R_all {τ : Mem} {a : Nat → Nat} {Q : Int32 → Mem → Prop} (g : Geo d) (hv : RepM τ d) (ha : Arr τ (7, 0, 0) (d 2) a) (hQ : Q (nI (sm a (d 2))) τ) : J_X6_all τ Q := by
  have hn := g.nu
  unfold J_X6_all
  refine lpA (d 2) (by omega) (fun k => nI (sm a k)) rfl (fun k I μ hk next => ?_)
  rw [hv 2 (by decide)]
  refine br_le (by omega) (by omega) (fun hle => ?_) (fun hlt => ?_)
  · have : k = d 2 := by omega
    subst this
    exact hQ
  · rw [nI_clamp (by omega), ha k hlt, nI_add]
    refine ⟨vp_in_nI (by omega) (by decide), ?_⟩
    rintro _ rfl _ rfl
    rw [nI_1]
    exact next hlt
theorem tot_le (hI : Inv T d) {i k : Nat} (hi : i < d 1) (h1 : 1 ≤ k) (hk : k ≤ 200) : tot d i k ≤ 6720 := by
  have hn := hI.geo.nu
  have hN := hI.geo.nd
  have hIk := gd_inv hI hi h1 hk
  have e2 : gd d i k 2 = d 2 := du_ne _ _ (by omega)
  have : sm (amt (gd d i k)) (d 2) ≤ d 2 * 560 := sm_le (fun u hu => by
    have hu2 : u < gd d i k 2 := by rw [e2]; exact hu
    exact Nat.le_trans ((amt_ok hIk.1 hIk.geo.2.2.2.2.2.2.2.2).2 u hu2) (ask_le (hIk.2.2.2.2.2.2.2.2.2.2.1 u hu2)))
  unfold tot
  omega
theorem C_trial {τ : Mem} {i k w : Nat} {Q : Int32 → Mem → Prop} (hI : Inv T d) (hi : i < d 1) (h1 : 1 ≤ k) (hk : k ≤ 200) (hv : RepX τ 1 (gd d i w)) (hQ : ∀ τ' : Mem, FrJ 1 τ τ' → RepX τ' 1 (gd d i k) → Q (nI (tot d i k)) τ') : J_X5_unitsGotInTrial (nI i) (nI k) τ Q := by
  have hn := hI.geo.nu
  have hN := hI.geo.nd
  have hIk := gd_inv hI hi h1 hk
  have e1 : gd d i w 1 = d 1 := du_ne _ _ (by omega)
  have e2 : gd d i k 2 = d 2 := du_ne _ _ (by omega)
  unfold J_X5_unitsGotInTrial
  rw [nI_clamp (by omega)]
  refine ⟨vp_in_nI (by omega) (by decide), ?_⟩
  rintro _ rfl
  have hr : RepX _ 1 (du (gd d i w) (50 + i) k) := hv.setD (f := 1) (by rw [e1]; exact hN) (by rw [e1]; exact hi) (by decide) k
  have e : du (gd d i w) (50 + i) k = gd d i k := du_du _ _ _ _
  rw [e] at hr
  refine C_distribute hIk hr (fun τ3 hf3 hv3 hF3 => C_unitsGot hIk.geo hv3 hF3.2.1 ?_)
  rw [e2]
  exact hQ τ3 ((FrJ.rf.own (k := 13) (by decide) _ _).tr (FrJ.of_fl hf3)) hv3
theorem P_usefulGate (hS : IS T d b ds n t) (hT : T + 48 ≤ 30000) (hX : WX σ d b ds n t) (hM : WM ρ d b ds n t) (x : Int32) : Agr (T + 48) (J_X5_usefulGate x σ) (J_X6_usefulGate x ρ) := by
  have g := hS.geo
  have hn := g.nu
  have hN := g.nd
  have hI := hS.1
  by_cases h : Rng 0 (d 1) x
  · obtain ⟨i, -, hi, rfl⟩ := id h
    have hgi := g.gt hi
    have eid : gd d i (d (50 + i)) = d := du_id _ _
    have bnd : ∀ k, 1 ≤ k → k ≤ 200 → tot d i k ≤ 6720 := fun k h1 hk => tot_le hI hi h1 hk
    have b200 := bnd 200 (by decide) (by decide)
    -- v + 1 is the first gate that is as good as 200
    obtain ⟨v, hv, hno, hyes⟩ := first_h (fun k => tot d i (k + 1) = tot d i 200) 199
    have hyes' : tot d i (v + 1) = tot d i 200 := by
      rcases hyes with q | q
      · rw [q]
      · exact q
    refine Agr.same hS hT (nI (v + 1)) ?_ ?_
    · unfold J_X5_usefulGate
      refine C_dit_t g hX.1 h (y1 (C_copyFrom g (by decide) hX.1 (fun τ3 hf3 hr3 => ?_)))
      refine C_trial (k := 200) (w := d (50 + i)) hI hi (by decide) (by decide) (by rw [eid]; exact hr3) (fun τ4 hf4 hr4 => ?_)
      refine lpMf 1 (v + 1) rfl (by omega) (by omega) (fun k τ' => FrJ 1 σ τ' ∧ ∃ w, RepX τ' 1 (gd d i w)) ⟨hf3.fj.tr hf4, 200, hr4⟩ (fun k τ5 I μ hk1 hk hP next => ?_)
      obtain ⟨hf, w, hr⟩ := hP
      rw [fa_lit 200]
      refine br_le (by omega) (by omega) (fun hle => ?_) (fun hlt => ?_)
      · have : k = 200 := by omega
        rw [show v + 1 = 200 by omega]
        exact ⟨rfl, hX.fr1 hf⟩
      · refine C_trial hI hi hk1 (by omega) hr (fun τ7 hf7 hr7 => ?_)
        have bk := bnd k hk1 (by omega)
        obtain ⟨k, rfl⟩ : ∃ k', k = k' + 1 := ⟨k - 1, by omega⟩
        refine br_ne (by omega) (by omega) (fun q => ?_) (fun q => ?_)
        · have : k = v := by
            rcases Nat.lt_or_ge k v with z | z
            · exact absurd q (hno k z)
            · omega
          subst this
          exact ⟨rfl, hX.fr1 (hf.tr hf7)⟩
        · have hkv : k < v := by
            rcases Nat.lt_or_ge k v with z | z
            · exact z
            · have : k = v := by omega
              subst this
              exact absurd hyes' q
          rintro _ rfl
          rw [nI_1]
          exact next (by omega) _ ⟨hf.tr hf7, k + 1, hr7⟩
    · unfold J_X6_usefulGate
      refine R_dit_t g hM.1 h (y1 ?_)
      rw [fa_lit 50, nI_add, nI_clamp (by omega), hM.1 (50 + i) (by omega)]
      refine ⟨vp_in_nI (by omega) (by decide), ?_⟩
      rintro _ rfl
      refine ⟨vp_in_nI (by omega) (by decide), ?_⟩
      rw [fa_lit 200]
      rintro _ rfl
      have e2 : ∀ k, gd d i k 2 = d 2 := fun k => du_ne _ _ (by omega)
      have egd : ∀ w k, du (gd d i w) (50 + i) k = gd d i k := fun w k => du_du _ _ _ _
      have run : ∀ (k w : Nat) (τ : Mem) (Q : Int32 → Mem → Prop), 1 ≤ k → k ≤ 200 → FrM ρ τ → RepM τ (gd d i w) → (∀ τ' : Mem, FrM ρ τ' → RepM τ' (gd d i k) → Q (nI (tot d i k)) τ') → J_X6_distributes (mup τ (1, 0, 0) (50 + i) (nI k)) (fun τ16 => J_X6_all τ16 Q) := by
        intro k w τ Q h1 hk hf hr hQ
        have hIk := gd_inv hI hi h1 hk
        have hr1 := hr.du (50 + i) k
        rw [egd] at hr1
        refine R_distributes hIk hr1 (fun τ9 hf9 h6 h7 h8 h9 => ?_)
        have hr9 : RepM τ9 (gd d i k) := hr1.row (hf9 _ (by decide) (by decide) (by decide) (by decide))
        refine R_all hIk.geo hr9 h7 ?_
        rw [e2]
        exact hQ τ9 ((hf.m1 _ _).tr (FrM.dist hf9)) hr9
      refine run 200 (d (50 + i)) ρ _ (by decide) (by decide) FrM.rf (by rw [eid]; exact hM.1) (fun τ8 hf8 hr8 => ?_)
      refine ⟨fun x4 x5 τ' => FrM ρ τ' ∧ (∃ w, RepM τ' (gd d i w)) ∧ ((x5 = 0 ∧ ∃ k, k ≤ v ∧ x4 = nI k) ∨ (x5 = 1 ∧ x4 = nI (v + 1))), fun x4 x5 _ => if x5 = 0 then 300 - x4.toNatClampNeg else 0, ⟨hf8, ⟨200, hr8⟩, Or.inl ⟨rfl, 0, Nat.zero_le _, rfl⟩⟩, ?_⟩
      rintro x4 x5 τ9 ⟨hf, ⟨w, hr⟩, hc⟩
      rcases hc with ⟨rfl, k, hk, rfl⟩ | ⟨rfl, rfl⟩
      · refine y0 ?_
        rw [nI_1]
        rintro _ rfl
        refine ⟨vp_in_nI (by omega) (by decide), ?_⟩
        rintro _ rfl
        have bk := bnd (k + 1) (by omega) (by omega)
        refine run (k + 1) w τ9 _ (by omega) (by omega) hf hr (fun τ17 hf17 hr17 => ?_)
        refine br_ne (by omega) (by omega) (fun q => ?_) (fun q => ?_)
        · have : k = v := by
            rcases Nat.lt_or_ge k v with z | z
            · exact absurd q (hno k z)
            · omega
          subst this
          refine ⟨⟨hf17, ⟨k + 1, hr17⟩, Or.inr ⟨rfl, rfl⟩⟩, ?_⟩
          show (if (1 : Int32) = 0 then _ else 0) < (if (0 : Int32) = 0 then 300 - (nI k).toNatClampNeg else 0)
          rw [if_neg (by decide), if_pos rfl, nI_clamp (by omega)]
          omega
        · have hkv : k < v := by
            rcases Nat.lt_or_ge k v with z | z
            · exact z
            · have : k = v := by omega
              subst this
              exact absurd hyes' q
          refine ⟨⟨hf17, ⟨k + 1, hr17⟩, Or.inl ⟨rfl, k + 1, hkv, rfl⟩⟩, ?_⟩
          show (if (0 : Int32) = 0 then 300 - (nI (k + 1)).toNatClampNeg else 0) < (if (0 : Int32) = 0 then 300 - (nI k).toNatClampNeg else 0)
          rw [if_pos rfl, if_pos rfl, nI_clamp (by omega), nI_clamp (by omega)]
          omega
      · refine y1 ⟨vp_in_nI (by omega) (by decide), ?_⟩
        rintro _ rfl
        have hr' := hr.du (50 + i) (d (50 + i))
        rw [egd, eid] at hr'
        exact ⟨rfl, hM.fr (hf.m1 _ _) hr'⟩
  · refine Agr.same hS hT (-101) ?_ ?_
    · unfold J_X5_usefulGate
      exact C_dit_f g hX.1 h (y0 ⟨rfl, hX⟩)
    · unfold J_X6_usefulGate
      exact R_dit_f g hM.1 h (y0 ⟨rfl, hM⟩)
end C6
