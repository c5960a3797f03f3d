/-! PART 31: the calls of the law, each with its answer and with what the district is behind it -/
def WZ (σ : Mem) (d : Dst) (b : Nat → Nat) (ds : Nat → Dst) (E : Mem) : Prop := RepX σ 0 d ∧ (∀ s, s < 2 → σ (2, 0, 0) s = nI (b s) ∧ (b s = 1 → RepX σ (2 + s) (ds s))) ∧ ∀ o : Oid, 16 ≤ o.1 → σ o = E o
theorem nR {lo hi v : Nat} (hv : v < 2 ^ 30) (hhi : hi < 2 ^ 30) (h : v < lo ∨ hi ≤ v) : ¬ Rng lo hi (nI v) := by
  rintro ⟨w, h1, h2, e⟩
  have := (nI_eq (by omega) (by omega)).mp e
  omega
theorem nRm {lo hi : Nat} (hhi : hi < 2 ^ 30) : ¬ Rng lo hi (-1) := by
  rintro ⟨w, h1, h2, e⟩
  exact nI_pos (n := w) (by omega) (by rw [← e]; decide)
theorem Rg {lo hi v : Nat} (h1 : lo ≤ v) (h2 : v < hi) : Rng lo hi (nI v) := ⟨v, h1, h2, rfl⟩
section KZ
variable {T : Nat} {σ σ' E : Mem} {d d' : Dst} {b : Nat → Nat} {ds : Nat → Dst} {Q : Int32 → Mem → Prop}
theorem WZ.fr1 (h : WZ σ d b ds E) (e : FrJ 1 σ σ') : WZ σ' d b ds E := by
  obtain ⟨h1, h2, h3⟩ := h
  refine ⟨h1.row (fun o a1 a2 a3 => e o (by omega) (by omega) (by omega) (by omega)), fun s hs => ⟨?_, fun q => ((h2 s hs).2 q).row (fun o a1 a2 a3 => e o (by omega) (by omega) (by omega) (by omega))⟩, fun o ho => ?_⟩
  · rw [e _ (by decide) (by decide) (by decide) (by decide)]
    exact (h2 s hs).1
  · rw [e o (by omega) (by omega) (by omega) (by omega)]
    exact h3 o ho
theorem WZ.fr0 (h : WZ σ d b ds E) (e : FrJ 0 σ σ') (hv : RepX σ' 0 d') : WZ σ' d' b ds E := by
  obtain ⟨h1, h2, h3⟩ := h
  refine ⟨hv, fun s hs => ⟨?_, fun q => ((h2 s hs).2 q).row (fun o a1 a2 a3 => e o (by omega) (by omega) (by omega) (by omega))⟩, fun o ho => ?_⟩
  · rw [e _ (by decide) (by decide) (by decide) (by decide)]
    exact (h2 s hs).1
  · rw [e o (by omega) (by omega) (by omega) (by omega)]
    exact h3 o ho
theorem WZ.arr (h : WZ σ d b ds E) {o : Oid} (ho : 16 ≤ o.1) (k : Nat) (x : Int32) : WZ (mup σ o k x) d b ds (mup E o k x) := by
  obtain ⟨h1, h2, h3⟩ := h
  have e : ∀ q : Oid, q.1 < 16 → mup σ o k x q = σ q := fun q hq => mup_ne _ _ _ (fun z => by rw [z] at hq; omega)
  refine ⟨h1.row (fun q a1 a2 a3 => e q (by omega)), fun s hs => ⟨?_, fun q => ((h2 s hs).2 q).row (fun p a1 a2 a3 => e p (by omega))⟩, fun q hq => ?_⟩
  · rw [e _ (by decide)]
    exact (h2 s hs).1
  · by_cases z : q = o
    · subst z
      rw [mup_self, mup_self, h3 q hq]
    · rw [mup_ne _ _ _ z, mup_ne _ _ _ z]
      exact h3 q hq
-- questions
theorem K_time (hX : WZ σ d b ds E) (hQ : Q (nI (d 0)) σ) : J_X5_time σ Q := by
  unfold J_X5_time
  rw [hX.1.tm]
  exact hQ
theorem K_ditches (hX : WZ σ d b ds E) (hQ : Q (nI (d 1)) σ) : J_X5_ditches σ Q := by
  unfold J_X5_ditches
  rw [hX.1.nd]
  exact hQ
theorem K_users (hX : WZ σ d b ds E) (hQ : Q (nI (d 2)) σ) : J_X5_users σ Q := by
  unfold J_X5_users
  rw [hX.1.nu]
  exact hQ
theorem K_turn (hI : Inv T d) (hX : WZ σ d b ds E) (hQ : Q (turnC d) σ) : J_X5_turn σ Q := by
  unfold J_X5_turn
  exact C_userInTurn hI hX.1 hQ
theorem K_userByAge (hI : Inv T d) (hX : WZ σ d b ds E) {v : Nat} (hv : v < d 2) (hQ : Q (nI (rkd d v)) σ) : J_X5_userByAge (nI v) σ Q := by
  have hn := hI.geo.nu
  unfold J_X5_userByAge
  refine C_usr_t hI.geo hX.1 (Rg (Nat.zero_le _) hv) (z1 ⟨vp_in_nI (by omega) (by decide), ?_⟩)
  rw [nI_clamp (by omega), hX.1.rk hv]
  exact hQ
theorem K_account (hX : WZ σ d b ds E) {v : Nat} (hv : v < 7) (hQ : Q (nI (d (5 + v))) σ) : J_X5_account (nI v) σ Q := by
  unfold J_X5_account
  refine C_in_t (lo := 0) (hi := 6) (by decide) (Rg (Nat.zero_le _) hv) (z1 ⟨vp_in_nI (by omega) (by decide), ?_⟩)
  rw [nI_clamp (by omega), hX.1.ac hv]
  exact hQ
theorem K_asks (hI : Inv T d) (hX : WZ σ d b ds E) {v : Nat} (hv : v < d 2) (hQ : Q (nI (ask d v)) σ) : J_X5_asks (nI v) σ Q := by
  unfold J_X5_asks
  exact C_usr_t hI.geo hX.1 (Rg (Nat.zero_le _) hv) (y1 (C_userInTurn hI hX.1 (C_unitsAsked hI hX.1 hv hQ)))
theorem K_gets (hI : Inv T d) (hX : WZ σ d b ds E) {v : Nat} (hv : v < d 2) (hQ : ∀ σ' : Mem, WZ σ' d b ds E → Q (nI (amt d v)) σ') : J_X5_gets (nI v) σ Q := by
  have hn := hI.geo.nu
  unfold J_X5_gets
  refine C_usr_t hI.geo hX.1 (Rg (Nat.zero_le _) hv) (y1 (C_distribute hI hX.1 (fun τ' hf hv' hF => ⟨vp_in_nI (by omega) (by decide), ?_⟩)))
  rw [nI_clamp (by omega), hF.2.1 v hv]
  exact hQ _ (hX.fr1 (FrJ.of_fl hf))
theorem K_inflow (hI : Inv T d) (hX : WZ σ d b ds E) {v : Nat} (hv : v < d 1) (hQ : ∀ σ' : Mem, WZ σ' d b ds E → Q (nI (FF d (amt d) v)) σ') : J_X5_inflow (nI v) σ Q := by
  have hn := hI.geo.nd
  unfold J_X5_inflow
  refine C_dit_t hI.geo hX.1 (Rg (Nat.zero_le _) hv) (y1 (C_distribute hI hX.1 (fun τ' hf hv' hF => ⟨vp_in_nI (by omega) (by decide), ?_⟩)))
  rw [nI_clamp (by omega), hF.2.2.1 v hv]
  exact hQ _ (hX.fr1 (FrJ.of_fl hf))
theorem K_loses (hI : Inv T d) (hX : WZ σ d b ds E) {v : Nat} (hv : v < d 1) (hQ : ∀ σ' : Mem, WZ σ' d b ds E → Q (nI (FF d (amt d) v - FP d (amt d) v)) σ') : J_X5_loses (nI v) σ Q := by
  have hn := hI.geo.nd
  unfold J_X5_loses
  refine C_dit_t hI.geo hX.1 (Rg (Nat.zero_le _) hv) (y1 (C_distribute hI hX.1 (fun τ' hf hv' hF => ?_)))
  unfold J_X1_lostIn
  rw [nI_clamp (by omega), hF.2.2.1 v hv, hF.2.2.2.1 v hv, pk_sub (FP_FF hI.1 (amt d) hv)]
  exact ⟨vp_in_nI (by omega) (by decide), vp_in_nI (by omega) (by decide), hQ _ (hX.fr1 (FrJ.of_fl hf))⟩
theorem lmf_in (hTp : Topo d) (a : Nat → Nat) : ∀ (f w : Nat), w < d 1 → lmf d a f w = -105 ∨ ∃ v, v < d 1 ∧ lmf d a f w = nI v
  | 0, _, _ => Or.inl rfl
  | f + 1, w, hw => by
    have hp : d (40 + w) < d 1 := by
      rcases Nat.eq_zero_or_pos w with z | z
      · rw [z, show d (40 + 0) = 0 from hTp.2.1]; exact hTp.1
      · have := hTp.2.2.1 w z hw
        omega
    show (if d (50 + w) < FF d a w then nI w else lmf d a f (d (40 + w))) = -105 ∨ _
    by_cases h : d (50 + w) < FF d a w
    · right
      refine ⟨w, hw, ?_⟩
      show (if d (50 + w) < FF d a w then nI w else lmf d a f (d (40 + w))) = _
      rw [if_pos h]
    · rw [if_neg h]
      rcases lmf_in hTp a f _ hp with q | ⟨v, q1, q2⟩
      · exact Or.inl q
      · right
        refine ⟨v, q1, ?_⟩
        show (if d (50 + w) < FF d a w then nI w else lmf d a f (d (40 + w))) = _
        rw [if_neg h]
        exact q2
theorem K_limit (hI : Inv T d) (hX : WZ σ d b ds E) {u : Nat} (hu : u < d 2) (hQ1 : amt d u = ask d u → ∀ σ' : Mem, WZ σ' d b ds E → Q (-103) σ') (hQ2 : amt d u ≠ ask d u → ∀ (r : Int32) (σ' : Mem), WZ σ' d b ds E → (r = -105 ∨ ∃ v, v < d 1 ∧ r = nI v) → Q r σ') : J_X5_limit (nI u) σ Q := by
  have g := hI.geo
  have hn := g.nu
  have hN := g.nd
  have hTp := hI.1
  have h : Rng 0 (d 2) (nI u) := Rg (Nat.zero_le _) hu
  have hok := amt_ok hTp g.2.2.2.2.2.2.2.2
  have hask : ∀ v, v < d 2 → ask d v ≤ 560 := fun v hv => ask_le (hI.2.2.2.2.2.2.2.2.2.2.1 v hv)
  have hau := hok.2 u hu
  have hsu := hask u hu
  by_cases hc : amt d u = ask d u
  · unfold J_X5_limit
    refine C_usr_t g hX.1 h (y1 (C_distribute hI hX.1 (fun τ' hf hv' hF => ?_)))
    unfold J_X1_isContent
    rw [nI_clamp (by omega), hF.2.1 u hu, hF.1 u hu]
    exact ⟨vp_in_nI (by omega) (by decide), vp_in_nI (by omega) (by decide), br_ne (by omega) (by omega) (fun _ => z1 (hQ1 hc _ (hX.fr1 (FrJ.of_fl hf)))) (fun q => absurd hc q)⟩
  · have hlt : amt d u < ask d u := by omega
    obtain ⟨a, ha⟩ : ∃ a, a = au (amt d) u (amt d u + 1) := ⟨_, rfl⟩
    have hab : ∀ v, v < d 2 → a v ≤ 560 := by
      intro v hv
      rw [ha]
      unfold au
      have := hok.2 v hv
      have := hask v hv
      split <;> omega
    have hFF : ∀ k, k < d 1 → FF d a k ≤ 6881280 := fun k hk => FF_le hTp hN hn hab hk
    have hw := hTp.2.2.2.2 u hu
    have hQ : ∀ σ' : Mem, WZ σ' d b ds E → Q (lmf d a (d 1) (d (70 + u))) σ' := fun σ' hz => hQ2 hc _ σ' hz (lmf_in hTp a _ _ hw)
    unfold J_X5_limit
    refine C_usr_t g hX.1 h (y1 (C_distribute hI hX.1 (fun τ3 hf3 hv3 hF => ?_)))
    unfold J_X1_isContent
    rw [nI_clamp (by omega), hF.2.1 u hu, hF.1 u hu]
    refine ⟨vp_in_nI (by omega) (by decide), vp_in_nI (by omega) (by decide), br_ne (by omega) (by omega) (fun q => absurd q hc) (fun _ => z0 ?_)⟩
    unfold J_X1_ditchAgainstOneMore
    rw [nI_clamp (by omega), hF.2.1 u hu, nI_1]
    refine ⟨vp_in_nI (by omega) (by decide), vp_in_nI (by omega) (by decide), ?_⟩
    rintro _ rfl
    have ha4 : Arr (mup τ3 (4, 1, 0) u (nI (amt d u + 1))) (4, 1, 0) (d 2) a := by
      rw [ha]
      exact hF.2.1.set _
    have hf4 : ∀ o : Oid, o.1 ≠ 3 → o.1 ≠ 4 → o.1 ≠ 15 → mup τ3 (4, 1, 0) u (nI (amt d u + 1)) o = σ o := fun o q1 q2 q3 => by rw [mup_o _ _ _ q2]; exact hf3 o q1 q2 q3
    refine C_spread hI (hX.1.fl hf4) ha4 hab (fun τ5 hf5 g5 g5' => ⟨vp_in_nI (by omega) (by decide), ?_⟩)
    have hf5' : ∀ o : Oid, o.1 ≠ 3 → o.1 ≠ 4 → o.1 ≠ 15 → τ5 o = σ o := fun o q1 q2 q3 => (hf5 o q3).trans (hf4 o q1 q2 q3)
    have hv5 := hX.1.fl hf5'
    have hX5 := hX.fr1 (FrJ.of_fl (j := 1) hf5')
    rw [hv5.u0 hu]
    rintro _ rfl
    refine ⟨fun x y => ∃ w k, w < d 1 ∧ k ≤ d 1 ∧ x = nI w ∧ y = nI k ∧ lmf d a (d 1 - k) w = lmf d a (d 1) (d (70 + u)), fun _ y => d 1 - y.toNatClampNeg, ⟨d (70 + u), 0, hw, Nat.zero_le _, rfl, rfl, rfl⟩, ?_⟩
    rintro x y ⟨w, k, hw1, hk, rfl, rfl, hl⟩
    rw [hv5.nd]
    refine br_le (by omega) (by omega) (fun hle => ?_) (fun hkl => ?_)
    · have : k = d 1 := by omega
      subst this
      rw [Nat.sub_self] at hl
      have e : lmf d a 0 w = -105 := rfl
      rw [e] at hl
      rw [hl]
      exact hQ _ hX5
    · have hFw := hFF w hw1
      have hGw := (g.gt hw1).2
      rw [show d 1 - k = (d 1 - (k + 1)) + 1 by omega] at hl
      have hl' : (if d (50 + w) < FF d a w then nI w else lmf d a (d 1 - (k + 1)) (d (40 + w))) = lmf d a (d 1) (d (70 + u)) := hl
      rw [nI_clamp (by omega), g5 w hw1, hv5.ga hw1, hv5.pa hw1]
      refine ⟨vp_in_nI (by omega) (by decide), vp_in_nI (by omega) (by decide), br_le (by omega) (by omega) (fun q => ⟨vp_in_nI (by omega) (by decide), ?_⟩) (fun q => ?_)⟩
      · rintro _ rfl _ rfl
        rw [if_neg (by omega)] at hl'
        have hp : d (40 + w) < d 1 := by
          rcases Nat.eq_zero_or_pos w with z | z
          · rw [z, show d (40 + 0) = 0 from hTp.2.1]; exact hTp.1
          · have := hTp.2.2.1 w z hw1
            omega
        rw [nI_1]
        refine ⟨⟨d (40 + w), k + 1, hp, by omega, rfl, rfl, hl'⟩, ?_⟩
        show d 1 - (nI (k + 1)).toNatClampNeg < d 1 - (nI k).toNatClampNeg
        rw [nI_clamp (by omega), nI_clamp (by omega)]
        omega
      · rw [if_pos q] at hl'
        rw [hl']
        exact hQ _ hX5
theorem K_gain (hI : Inv T d) (hX : WZ σ d b ds E) {u v : Nat} (hu : u < d 2) (hv : v < d 2) (h3 : older d u v) (hQ : ∀ σ' : Mem, WZ σ' d b ds E → Q (gnd d u v) σ') : J_X5_gain (nI u) (nI v) σ Q := by
  have g := hI.geo
  unfold J_X5_gain
  exact C_usr_t g hX.1 (Rg (Nat.zero_le _) hu) (z1 (C_usr_t g hX.1 (Rg (Nat.zero_le _) hv) (y1 (C_isYounger hI hX.1 hv hu (fun _ => y1 (C_gainOf hI hX.1 hu hv (fun σ' hf => hQ _ (hX.fr1 hf)))) (fun q => absurd h3 q)))))
theorem K_complaint (hI : Inv T d) (hX : WZ σ d b ds E) {u v : Nat} (hu : u < d 2) (hv : v < d 2) (h3 : older d u v) (hQ : ∀ σ' : Mem, WZ σ' d b ds E → Q (jdd d u v) σ') : J_X5_complaint (nI u) (nI v) σ Q := by
  have g := hI.geo
  unfold J_X5_complaint
  exact C_usr_t g hX.1 (Rg (Nat.zero_le _) hu) (z1 (C_usr_t g hX.1 (Rg (Nat.zero_le _) hv) (y1 (C_isYounger hI hX.1 hv hu (fun _ => y1 (C_judge hI hX.1 hu hv (fun σ' hf => hQ _ (hX.fr1 hf)))) (fun q => absurd h3 q)))))
theorem K_checksum {Q : Int64 → Mem → Prop} (hI : Inv T d) (hX : WZ σ d b ds E) (hQ : ∀ σ' : Mem, WZ σ' d b ds E → Q (csum d) σ') : J_X5_checksum σ Q := by
  have g := hI.geo
  have hn := g.nu
  have hN := g.nd
  unfold J_X5_checksum
  refine C_distribute hI hX.1 (fun τ1 hf1 hv1 hF1 => ?_)
  obtain ⟨f1, f2, f3, f4, -⟩ := hF1
  have hX1 := hX.fr1 (FrJ.of_fl (j := 1) hf1)
  rw [hv1.tm, hv1.nd, hv1.nu]
  rintro _ rfl _ rfl _ rfl _ rfl
  refine lpLM (d 1) (by omega) (csd d (m31 (m31 (m31 53 (nI (d 0))) (nI (d 1))) (nI (d 2)))) rfl (fun k I μ hk next => ?_)
  rw [hv1.nd]
  refine br_le (by omega) (by omega) (fun hle => ?_) (fun hlt => ?_)
  · have : k = d 1 := by omega
    subst this
    refine lpLM (d 2) (by omega) (csu d (csd d (m31 (m31 (m31 53 (nI (d 0))) (nI (d 1))) (nI (d 2))) (d 1))) rfl (fun k I μ hk next => ?_)
    rw [hv1.nu]
    refine br_le (by omega) (by omega) (fun hle => ?_) (fun hlt => ?_)
    · have : k = d 2 := by omega
      subst this
      refine lpL 7 (by decide) (csa d (csu d (csd d (m31 (m31 (m31 53 (nI (d 0))) (nI (d 1))) (nI (d 2))) (d 1)) (d 2))) rfl (fun k I μ hk next => ?_)
      rw [fa_lit 7]
      refine br_le (by decide) (by omega) (fun hle => ?_) (fun hlt => ?_)
      · have : k = 7 := by omega
        subst this
        exact C_userInTurn hI hv1 (hQ _ hX1)
      · rw [nI_clamp (by omega), hv1.ac hlt]
        refine ⟨vp_in_nI hlt (by decide), ?_⟩
        rintro _ rfl _ rfl
        rw [nI_1]
        exact next hlt
    · unfold J_X5_withUser
      rw [nI_clamp (by omega), f1 k hlt, f2 k hlt, hv1.u7 hlt, hv1.u10 hlt, hv1.u11 hlt]
      refine ⟨vp_in_nI (by omega) (by decide), vp_in_nI (by omega) (by decide), ?_⟩
      rintro _ rfl
      refine ⟨vp_in_nI (by omega) (by decide), ?_⟩
      rintro _ rfl _ rfl _ rfl
      have b11 := (g.ug hlt).2.2.2.2.2.2.2.2.2
      have nx := next hlt
      rw [fa_lit 0]
      refine br_eq (by omega) (by omega) (fun q => ?_) (fun q => ?_)
      · rintro _ rfl
        rw [nI_1]
        have e : csu d (csd d (m31 (m31 (m31 53 (nI (d 0))) (nI (d 1))) (nI (d 2))) (d 1)) (k + 1) = m31 (m31 (m31 (m31 (m31 (csu d (csd d (m31 (m31 (m31 53 (nI (d 0))) (nI (d 1))) (nI (d 2))) (d 1)) k) (nI (ask d k))) (nI (amt d k))) (nI (d (154 + k)))) (nI (d (190 + k)))) (nI (d (202 + k))) := rfl
        rw [e, q] at nx
        exact nx
      · rintro _ rfl
        rw [nI_1]
        have e : csu d (csd d (m31 (m31 (m31 53 (nI (d 0))) (nI (d 1))) (nI (d 2))) (d 1)) (k + 1) = m31 (m31 (m31 (m31 (m31 (csu d (csd d (m31 (m31 (m31 53 (nI (d 0))) (nI (d 1))) (nI (d 2))) (d 1)) k) (nI (ask d k))) (nI (amt d k))) (nI (d (154 + k)))) (nI (d (190 + k)))) (nI (d (202 + k))) := rfl
        rw [e, show d (202 + k) = 1 by omega] at nx
        exact nx
  · unfold J_X1_lostIn
    rw [nI_clamp (by omega), f3 k hlt, f4 k hlt]
    refine ⟨vp_in_nI (by omega) (by decide), ?_⟩
    rintro _ rfl
    refine ⟨vp_in_nI (by omega) (by decide), vp_in_nI (by omega) (by decide), ?_⟩
    rintro _ rfl _ rfl
    rw [nI_1]
    exact next hlt
end KZ
