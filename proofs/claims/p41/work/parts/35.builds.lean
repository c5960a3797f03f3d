/-! PART 35: the law builds a district -/
theorem spd_at {d : Dst} {a x j : Nat} : ∀ {k : Nat}, j < k → spd d a x k (12 + (a + j)) = x
  | 0, h => absurd h (Nat.not_lt_zero _)
  | k + 1, h => by
    show du (spd d a x k) (12 + (a + k)) x (12 + (a + j)) = x
    by_cases q : j = k
    · rw [q, du_self]
    · rw [du_ne _ _ (by omega)]
      exact spd_at (by omega)
section BL
variable {σ E : Mem} {d : Dst} {b : Nat → Nat} {ds : Nat → Dst} {Q : Int32 → Mem → Prop} {L : Nat} {xs : Nat → Int32} {N M w2 : Nat} {x2 b2 : Int32} {K : Int32 → Int32 → Mem → Prop}
theorem b476 (hX : WZ σ d b ds E) (e0 : E (18, 0, 0) 0 = nI (d 1)) (e1 : E (18, 0, 0) 1 = nI (d 2)) (hQ : Q 1 σ) : J_L_builds_b476 L xs x2 1 σ Q := by
  unfold J_L_builds_b476
  refine ⟨fun h => absurd h (by decide), fun _ => K_ditches hX ?_⟩
  rw [hX.2.2 (18, 0, 0) (by decide), e0]
  refine ⟨fun h => absurd rfl h, fun _ => K_users hX ?_⟩
  rw [hX.2.2 (18, 0, 0) (by decide), e1]
  exact ⟨fun h => absurd rfl h, fun _ => hQ⟩
theorem b388 (hI : Inv 0 d) (hX : WZ σ d b ds E) {a y r n c : Nat} (hk6 : d 2 < 6) (ha : a < d 1) (hy : 1800 ≤ y ∧ y ≤ 2099) (hr : r ≤ 60) (hn : n ≤ 60) (hc : c ≤ 500) (f0 : E (17, 0, 0) (5 * d 2) = nI a) (f1 : E (17, 0, 0) (5 * d 2 + 1) = nI y) (f2 : E (17, 0, 0) (5 * d 2 + 2) = nI r) (f3 : E (17, 0, 0) (5 * d 2 + 3) = nI n) (hK : ∀ σ' : Mem, Inv 0 (newU d a y r n c) → WZ σ' (newU d a y r n c) b ds (mup E (17, 0, 0) (5 * d 2 + 4) (nI c)) → K 1 (nI (d 2 + 1)) σ') : J_L_builds_b388 L xs x2 b2 K (nI (d 2)) (nI c) (nI (5 * d 2 + 4)) σ Q := by
  have m5 : (5 : Int32) * nI (d 2) = nI (5 * d 2) := pk_mul 5 (d 2)
  have i1 : nI (5 * d 2) + 1 = nI (5 * d 2 + 1) := nI_add _ 1
  have i2 : nI (5 * d 2) + 2 = nI (5 * d 2 + 2) := nI_add _ 2
  have i3 : nI (5 * d 2) + 3 = nI (5 * d 2 + 3) := nI_add _ 3
  have i4 : nI (5 * d 2) + 4 = nI (5 * d 2 + 4) := nI_add _ 4
  have hN := hI.geo.nd
  unfold J_L_builds_b388
  rw [m5, i1, i2, i3, i4, nI_clamp (n := 5 * d 2) (by omega), nI_clamp (n := 5 * d 2 + 1) (by omega), nI_clamp (n := 5 * d 2 + 2) (by omega), nI_clamp (n := 5 * d 2 + 3) (by omega), nI_clamp (n := 5 * d 2 + 4) (by omega)]
  refine ⟨vp_in_nI (by omega) (by decide), ?_⟩
  intro τ h
  have X1 : WZ τ d b ds (mup E (17, 0, 0) (5 * d 2 + 4) (nI c)) := by
    rw [h]
    exact hX.arr (o := (17, 0, 0)) (by decide) _ _
  have q0 : τ (17, 0, 0) (5 * d 2) = nI a := by rw [X1.2.2 _ (by decide), mup_at, if_neg (by omega)]; exact f0
  have q1 : τ (17, 0, 0) (5 * d 2 + 1) = nI y := by rw [X1.2.2 _ (by decide), mup_at, if_neg (by omega)]; exact f1
  have q2 : τ (17, 0, 0) (5 * d 2 + 2) = nI r := by rw [X1.2.2 _ (by decide), mup_at, if_neg (by omega)]; exact f2
  refine ⟨vp_in_nI (by omega) (by decide), vp_in_nI (by omega) (by decide), vp_in_nI (by omega) (by decide), ?_⟩
  rw [q0, q1, q2]
  refine K_addUser hI X1 ha hy.1 hy.2 hr (by omega) (fun σ1 I1 Z1 => ?_)
  refine ⟨fun z => absurd rfl z, fun _ => ⟨vp_in_nI (by omega) (by decide), ?_⟩⟩
  have q3 : σ1 (17, 0, 0) (5 * d 2 + 3) = nI n := by rw [Z1.2.2 _ (by decide), mup_at, if_neg (by omega)]; exact f3
  rw [q3]
  have hu1 : d 2 < addU d a y r 2 := by rw [addU_2]; omega
  refine K_setField I1 Z1 hu1 hn (fun σ2 I2 Z2 => ?_)
  have n3 : addU d a y r (106 + d 2) = 0 := addU_new (d := d) (p := a) (y := y) (r := r) (f := 3) (by decide) (by omega)
  rw [n3]
  refine ⟨fun z => absurd rfl z, fun _ => ⟨vp_in_nI (by omega) (by decide), ?_⟩⟩
  have q4 : σ2 (17, 0, 0) (5 * d 2 + 4) = nI c := by rw [Z2.2.2 _ (by decide), mup_at, if_pos rfl]
  rw [q4]
  have hu2 : d 2 < fldU (addU d a y r) (d 2) n 2 := by rw [fldU_ne (by omega) (by omega) (by omega)]; exact hu1
  refine K_setPond I2 Z2 hu2 hc (fun σ3 I3 Z3 => ?_)
  have n7 : fldU (addU d a y r) (d 2) n (154 + d 2) = 0 := by
    rw [fldU_ne (by omega) (by omega) (by omega)]
    exact addU_new (d := d) (p := a) (y := y) (r := r) (f := 7) (by decide) (by omega)
  have n7' : min ((du (du (du (addU d a y r) (106 + d 2) n) (118 + d 2) 0) (130 + d 2) 24) (154 + d 2)) c = 0 := by
    rw [show (du (du (du (addU d a y r) (106 + d 2) n) (118 + d 2) 0) (130 + d 2) 24) (154 + d 2) = 0 from n7]
    exact Nat.zero_min _
  refine ⟨fun z => absurd (congrArg nI n7') z, fun _ => ?_⟩
  rintro _ rfl
  rw [nI_1]
  exact hK σ3 I3 Z3
theorem b261 (hI : Inv 0 d) (hX : WZ σ d b ds E) (hB : BW E d N M w2) (hN : d 1 = N) (h2 : d 2 = 0) (hL : L ≤ 260) (hQ : ∀ (σ' : Mem) (d' : Dst) (E' : Mem), Inv 0 d' → WZ σ' d' b ds E' → BW E' d' N M w2 → d' 1 = N → d' 2 = M → Q 1 σ') : J_L_builds_b261 L xs x2 0 1 σ Q := by
  obtain ⟨hN1, hN5, hM1, hM6, hw⟩ := hB.2.1
  unfold J_L_builds_b261
  refine lpAM M (by omega) (fun k y τ => y = 1 ∧ ∃ (d : Dst) (E : Mem), Inv 0 d ∧ WZ τ d b ds E ∧ BW E d N M w2 ∧ d 1 = N ∧ d 2 = k) ⟨rfl, d, E, hI, hX, hB, hN, h2⟩ (fun k y τ I μ hk hP next => ?_)
  clear hI hX hB hN h2
  obtain ⟨rfl, d, E, hI, hX, hB, hN, hdk⟩ := hP
  subst hdk
  rw [hX.2.2 (18, 0, 0) (by decide), hB.1.2.1]
  refine br_le (by omega) (by omega) (fun hle => ?_) (fun hlt => ⟨fun z => absurd z (by decide), fun _ => ?_⟩)
  · have : d 2 = M := by omega
    exact b476 hX (by rw [hB.1.1, hN]) (by rw [hB.1.2.1, this]) (hQ _ _ _ hI hX hB hN this)
  · have ex : (0 : Int32) + 5 + nI (d 2) = nI (5 + d 2) := nI_add 5 (d 2)
    rw [ex]
    refine K_cell hL (by omega) (fun z hz => ?_)
    have m5 : (5 : Int32) * nI (d 2) = nI (5 * d 2) := pk_mul 5 (d 2)
    have i1 : nI (5 * d 2) + 1 = nI (5 * d 2 + 1) := nI_add _ 1
    have i2 : nI (5 * d 2) + 2 = nI (5 * d 2 + 2) := nI_add _ 2
    have i3 : nI (5 * d 2) + 3 = nI (5 * d 2 + 3) := nI_add _ 3
    have i4 : nI (5 * d 2) + 4 = nI (5 * d 2 + 4) := nI_add _ 4
    have v0 : nI z - nI z / nI N * nI N = nI (z % N) := pk_rem hz (by omega) (by omega)
    have v1' : (nI z >>> ((4 : Int32) &&& 31) : Int32) - (nI z >>> ((4 : Int32) &&& 31) : Int32) / 9 * 9 = nI (z / 2 ^ 4 % 9) := shm hz 4 4 9 (by decide) (by decide) (by decide)
    have v1 : (1880 : Int32) + nI (z / 2 ^ 4 % 9) = nI (1880 + z / 2 ^ 4 % 9) := nI_add 1880 _
    have v2 : (nI z >>> ((8 : Int32) &&& 31) : Int32) - (nI z >>> ((8 : Int32) &&& 31) : Int32) / 40 * 40 = nI (z / 2 ^ 8 % 40) := shm hz 8 8 40 (by decide) (by decide) (by decide)
    have v3 : (nI z >>> ((14 : Int32) &&& 31) : Int32) - (nI z >>> ((14 : Int32) &&& 31) : Int32) / 30 * 30 = nI (z / 2 ^ 14 % 30) := shm hz 14 14 30 (by decide) (by decide) (by decide)
    have v4 : (nI z >>> ((21 : Int32) &&& 31) : Int32) - (nI z >>> ((21 : Int32) &&& 31) : Int32) / 60 * 60 = nI (z / 2 ^ 21 % 60) := shm hz 21 21 60 (by decide) (by decide) (by decide)
    rw [hX.2.2 (18, 0, 0) (by decide), hB.1.1, v0, v1', v1, v2, v3, v4, m5, i1, i2, i3, i4, nI_clamp (n := 5 * d 2) (by omega), nI_clamp (n := 5 * d 2 + 1) (by omega), nI_clamp (n := 5 * d 2 + 2) (by omega), nI_clamp (n := 5 * d 2 + 3) (by omega)]
    have ba : z % N < N := Nat.mod_lt _ (by omega)
    have by1 : z / 2 ^ 4 % 9 < 9 := Nat.mod_lt _ (by decide)
    have br1 : z / 2 ^ 8 % 40 < 40 := Nat.mod_lt _ (by decide)
    have bn : z / 2 ^ 14 % 30 < 30 := Nat.mod_lt _ (by decide)
    have bc : z / 2 ^ 21 % 60 < 60 := Nat.mod_lt _ (by decide)
    generalize z % N = a at *
    generalize z / 2 ^ 4 % 9 = yy at *
    generalize z / 2 ^ 8 % 40 = r at *
    generalize z / 2 ^ 14 % 30 = n at *
    generalize z / 2 ^ 21 % 60 = cc at *
    refine ⟨nI_ne0 (by omega) (by omega), vp_in_nI (by omega) (by decide), ?_⟩
    intro τ1 h1
    have X1 : WZ τ1 d b ds (mup E (17, 0, 0) (5 * d 2) (nI a)) := by
      rw [h1]
      exact hX.arr (o := (17, 0, 0)) (by decide) _ _
    have B1 := hB.e17 (j := 5 * d 2) (x := nI a) (by omega)
    refine ⟨vp_in_nI (by omega) (by decide), ?_⟩
    intro τ2 h2
    have X2 : WZ τ2 d b ds (mup (mup E (17, 0, 0) (5 * d 2) (nI a)) (17, 0, 0) (5 * d 2 + 1) (nI (1880 + yy))) := by
      rw [h2]
      exact X1.arr (o := (17, 0, 0)) (by decide) _ _
    have B2 := B1.e17 (j := 5 * d 2 + 1) (x := nI (1880 + yy)) (by omega)
    refine ⟨vp_in_nI (by omega) (by decide), ?_⟩
    intro τ3 h3
    have X3 : WZ τ3 d b ds (mup (mup (mup E (17, 0, 0) (5 * d 2) (nI a)) (17, 0, 0) (5 * d 2 + 1) (nI (1880 + yy))) (17, 0, 0) (5 * d 2 + 2) (nI r)) := by
      rw [h3]
      exact X2.arr (o := (17, 0, 0)) (by decide) _ _
    have B3 := B2.e17 (j := 5 * d 2 + 2) (x := nI r) (by omega)
    refine ⟨vp_in_nI (by omega) (by decide), ?_⟩
    intro τ4 h4
    have X4 : WZ τ4 d b ds (mup (mup (mup (mup E (17, 0, 0) (5 * d 2) (nI a)) (17, 0, 0) (5 * d 2 + 1) (nI (1880 + yy))) (17, 0, 0) (5 * d 2 + 2) (nI r)) (17, 0, 0) (5 * d 2 + 3) (nI n)) := by
      rw [h4]
      exact X3.arr (o := (17, 0, 0)) (by decide) _ _
    have B4 := B3.e17 (j := 5 * d 2 + 3) (x := nI n) (by omega)
    obtain ⟨E4, hE⟩ : ∃ E4 : Mem, E4 = mup (mup (mup (mup E (17, 0, 0) (5 * d 2) (nI a)) (17, 0, 0) (5 * d 2 + 1) (nI (1880 + yy))) (17, 0, 0) (5 * d 2 + 2) (nI r)) (17, 0, 0) (5 * d 2 + 3) (nI n) := ⟨_, rfl⟩
    rw [← hE] at X4 B4
    have f0 : E4 (17, 0, 0) (5 * d 2) = nI a := by rw [hE, mup_at, if_neg (by omega), mup_at, if_neg (by omega), mup_at, if_neg (by omega), mup_at, if_pos rfl]
    have f1 : E4 (17, 0, 0) (5 * d 2 + 1) = nI (1880 + yy) := by rw [hE, mup_at, if_neg (by omega), mup_at, if_neg (by omega), mup_at, if_pos rfl]
    have f2 : E4 (17, 0, 0) (5 * d 2 + 2) = nI r := by rw [hE, mup_at, if_neg (by omega), mup_at, if_pos rfl]
    have f3 : E4 (17, 0, 0) (5 * d 2 + 3) = nI n := by rw [hE, mup_at, if_pos rfl]
    have fin : ∀ c, c ≤ 500 → J_L_builds_b388 L xs x2 0 (fun z0 z1 z2 => I z0 z1 z2 ∧ μ z0 z1 z2 < μ 1 (nI (d 2)) τ) (nI (d 2)) (nI c) (nI (5 * d 2 + 4)) τ4 Q := fun c hc => b388 hI X4 (by omega) (by omega) (by omega) (by omega) (by omega) hc f0 f1 f2 f3 (fun σ' I' Z' => next hlt 1 σ' ⟨rfl, _, _, I', Z', (B4.e17 (by omega)).user hlt (by rw [mup_at, if_neg (by omega)]; exact f1), (newU_lo (by omega) (by omega)).trans hN, newU_2⟩)
    exact ⟨fun _ => fin 0 (by omega), fun _ => fin cc (by omega)⟩
theorem b216 (hI : Inv 0 d) (hX : WZ σ d b ds E) {p g l : Nat} (hp : p < d 1) (hg : 1 ≤ g ∧ g ≤ 200) (hl : l ≤ 50) (h1 : d 1 < 9) (f0 : E (16, 0, 0) (3 * d 1) = nI p) (f1 : E (16, 0, 0) (3 * d 1 + 1) = nI g) (hK : ∀ σ' : Mem, Inv 0 (addD d p g l) → WZ σ' (addD d p g l) b ds (mup E (16, 0, 0) (3 * d 1 + 2) (nI l)) → K 1 (nI (d 1 + 1)) σ') : J_L_builds_b216 L xs x2 b2 K (nI (d 1)) (nI l) (nI (3 * d 1 + 2)) σ Q := by
  have m3 : (3 : Int32) * nI (d 1) = nI (3 * d 1) := pk_mul 3 (d 1)
  have i1 : nI (3 * d 1) + 1 = nI (3 * d 1 + 1) := nI_add _ 1
  have i2 : nI (3 * d 1) + 2 = nI (3 * d 1 + 2) := nI_add _ 2
  unfold J_L_builds_b216
  rw [m3, i1, i2, nI_clamp (n := 3 * d 1) (by omega), nI_clamp (n := 3 * d 1 + 1) (by omega), nI_clamp (n := 3 * d 1 + 2) (by omega)]
  refine ⟨vp_in_nI (by omega) (by decide), ?_⟩
  intro τ h
  have X1 : WZ τ d b ds (mup E (16, 0, 0) (3 * d 1 + 2) (nI l)) := by
    rw [h]
    exact hX.arr (o := (16, 0, 0)) (by decide) _ _
  have q0 : τ (16, 0, 0) (3 * d 1) = nI p := by rw [X1.2.2 _ (by decide), mup_at, if_neg (by omega)]; exact f0
  have q1 : τ (16, 0, 0) (3 * d 1 + 1) = nI g := by rw [X1.2.2 _ (by decide), mup_at, if_neg (by omega)]; exact f1
  have q2 : τ (16, 0, 0) (3 * d 1 + 2) = nI l := by rw [X1.2.2 _ (by decide), mup_at, if_pos rfl]
  refine ⟨vp_in_nI (by omega) (by decide), vp_in_nI (by omega) (by decide), vp_in_nI (by omega) (by decide), ?_⟩
  rw [q0, q1, q2]
  refine K_addDitch hI X1 hp hg.1 hg.2 hl (by omega) (fun σ1 I1 Z1 => ?_)
  refine ⟨fun z => absurd rfl z, fun _ => ?_⟩
  rintro _ rfl
  rw [nI_1]
  exact hK σ1 I1 Z1
theorem b130 (hI : Inv 0 d) (hX : WZ σ d b ds E) (hB : BW E d N M w2) (h1 : d 1 = 1) (h2 : d 2 = 0) (hL : L ≤ 260) (hQ : ∀ (σ' : Mem) (d' : Dst) (E' : Mem), Inv 0 d' → WZ σ' d' b ds E' → BW E' d' N M w2 → d' 1 = N → d' 2 = M → Q 1 σ') : J_L_builds_b130 L xs x2 0 1 σ Q := by
  obtain ⟨hN1, hN5, hM1, hM6, hw⟩ := hB.2.1
  unfold J_L_builds_b130
  refine lpAMf 1 N rfl hN1 (by omega) (fun k y τ => y = 1 ∧ ∃ (d : Dst) (E : Mem), Inv 0 d ∧ WZ τ d b ds E ∧ BW E d N M w2 ∧ d 1 = k ∧ d 2 = 0) ⟨rfl, d, E, hI, hX, hB, h1, h2⟩ (fun k y τ I μ hk0 hk hP next => ?_)
  clear hI hX hB h1 h2
  obtain ⟨rfl, d, E, hI, hX, hB, hdk, h2⟩ := hP
  subst hdk
  rw [hX.2.2 (18, 0, 0) (by decide), hB.1.1]
  refine br_le (by omega) (by omega) (fun hle => ?_) (fun hlt => ⟨fun z => absurd z (by decide), fun _ => ?_⟩)
  · exact b261 hI hX hB (by omega) h2 hL hQ
  · have ex : (0 : Int32) + nI (d 1) = nI (0 + d 1) := nI_add 0 (d 1)
    rw [ex]
    refine K_cell hL (by omega) (fun z hz => ?_)
    have m3 : (3 : Int32) * nI (d 1) = nI (3 * d 1) := pk_mul 3 (d 1)
    have i1 : nI (3 * d 1) + 1 = nI (3 * d 1 + 1) := nI_add _ 1
    have i2 : nI (3 * d 1) + 2 = nI (3 * d 1 + 2) := nI_add _ 2
    have v0 : nI z - nI z / nI (d 1) * nI (d 1) = nI (z % d 1) := pk_rem hz (by omega) (by omega)
    have v1' : (nI z >>> ((4 : Int32) &&& 31) : Int32) - (nI z >>> ((4 : Int32) &&& 31) : Int32) / 80 * 80 = nI (z / 2 ^ 4 % 80) := shm hz 4 4 80 (by decide) (by decide) (by decide)
    have v1 : (1 : Int32) + nI (z / 2 ^ 4 % 80) = nI (1 + z / 2 ^ 4 % 80) := nI_add 1 _
    have v3 : (nI z >>> ((14 : Int32) &&& 31) : Int32) - (nI z >>> ((14 : Int32) &&& 31) : Int32) / 51 * 51 = nI (z / 2 ^ 14 % 51) := shm hz 14 14 51 (by decide) (by decide) (by decide)
    rw [v0, v1', v1, v3, m3, i1, i2, nI_clamp (n := 3 * d 1) (by omega), nI_clamp (n := 3 * d 1 + 1) (by omega)]
    have ba : z % d 1 < d 1 := Nat.mod_lt _ (by omega)
    have bg : z / 2 ^ 4 % 80 < 80 := Nat.mod_lt _ (by decide)
    have bl : z / 2 ^ 14 % 51 < 51 := Nat.mod_lt _ (by decide)
    generalize z % d 1 = a at *
    generalize z / 2 ^ 4 % 80 = g at *
    generalize z / 2 ^ 14 % 51 = ll at *
    refine ⟨nI_ne0 (by omega) (by omega), vp_in_nI (by omega) (by decide), ?_⟩
    intro τ1 h1
    have X1 : WZ τ1 d b ds (mup E (16, 0, 0) (3 * d 1) (nI a)) := by
      rw [h1]
      exact hX.arr (o := (16, 0, 0)) (by decide) _ _
    have B1 := hB.e16 (j := 3 * d 1) (x := nI a) (by omega)
    refine ⟨vp_in_nI (by omega) (by decide), ?_⟩
    intro τ2 h2'
    have X2 : WZ τ2 d b ds (mup (mup E (16, 0, 0) (3 * d 1) (nI a)) (16, 0, 0) (3 * d 1 + 1) (nI (1 + g))) := by
      rw [h2']
      exact X1.arr (o := (16, 0, 0)) (by decide) _ _
    have B2 := B1.e16 (j := 3 * d 1 + 1) (x := nI (1 + g)) (by omega)
    obtain ⟨E2, hE⟩ : ∃ E2 : Mem, E2 = mup (mup E (16, 0, 0) (3 * d 1) (nI a)) (16, 0, 0) (3 * d 1 + 1) (nI (1 + g)) := ⟨_, rfl⟩
    rw [← hE] at X2 B2
    have f0 : E2 (16, 0, 0) (3 * d 1) = nI a := by rw [hE, mup_at, if_neg (by omega), mup_at, if_pos rfl]
    have f1 : E2 (16, 0, 0) (3 * d 1 + 1) = nI (1 + g) := by rw [hE, mup_at, if_pos rfl]
    have fin : ∀ l, l ≤ 50 → J_L_builds_b216 L xs x2 0 (fun z0 z1 z2 => I z0 z1 z2 ∧ μ z0 z1 z2 < μ 1 (nI (d 1)) τ) (nI (d 1)) (nI l) (nI (3 * d 1 + 2)) τ2 Q := fun l hl => b216 hI X2 ba (by omega) hl (by omega) f0 f1 (fun σ' I' Z' => next hlt 1 σ' ⟨rfl, _, _, I', Z', (B2.e16 (by omega)).ditch hlt h2 (by rw [mup_at, if_neg (by omega)]; exact f1) (by rw [mup_at, if_pos rfl]), addD_1 _ _ _, (addD_ne (by omega) (by omega) (by omega) (by omega)).trans h2⟩)
    exact ⟨fun _ => fin ll (by omega), fun _ => fin 0 (by omega)⟩
theorem K_builds (hI : Inv 0 d) (hX : WZ σ d b ds E) (c0 : d 0 = 0) (c1 : d 1 = 1) (c2 : d 2 = 0) (c3 : d 3 = 0) (cs : ∀ i, i < 7 → d (5 + i) = 0) (c12 : d 12 = 100) (c50 : d 50 = 100) (hL : L ≤ 260) (hQ : ∀ (σ' : Mem) (d' : Dst) (E' : Mem) (N M w2 : Nat), Inv 0 d' → WZ σ' d' b ds E' → BW E' d' N M w2 → d' 1 = N → d' 2 = M → Q 1 σ') : J_L_builds L xs 0 σ Q := by
  unfold J_L_builds
  refine K_cell (k := 0) hL (by decide) (fun y hy => ?_)
  have v0' : nI y - nI y / 5 * 5 = nI (y % 5) := pk_rem hy (by decide) (by decide)
  have v0 : (1 : Int32) + nI (y % 5) = nI (1 + y % 5) := nI_add 1 _
  have v1' : (nI y >>> ((3 : Int32) &&& 31) : Int32) - (nI y >>> ((3 : Int32) &&& 31) : Int32) / 6 * 6 = nI (y / 2 ^ 3 % 6) := shm hy 3 3 6 (by decide) (by decide) (by decide)
  have v1 : (1 : Int32) + nI (y / 2 ^ 3 % 6) = nI (1 + y / 2 ^ 3 % 6) := nI_add 1 _
  have v2 : (nI y >>> ((6 : Int32) &&& 31) : Int32) - (nI y >>> ((6 : Int32) &&& 31) : Int32) / 120 * 120 = nI (y / 2 ^ 6 % 120) := shm hy 6 6 120 (by decide) (by decide) (by decide)
  have v3 : (nI y >>> ((13 : Int32) &&& 31) : Int32) - (nI y >>> ((13 : Int32) &&& 31) : Int32) / 3 * 3 = nI (y / 2 ^ 13 % 3) := shm hy 13 13 3 (by decide) (by decide) (by decide)
  have v4' : (nI y >>> ((15 : Int32) &&& 31) : Int32) - (nI y >>> ((15 : Int32) &&& 31) : Int32) / 150 * 150 = nI (y / 2 ^ 15 % 150) := shm hy 15 15 150 (by decide) (by decide) (by decide)
  have v4 : (1 : Int32) + nI (y / 2 ^ 15 % 150) = nI (1 + y / 2 ^ 15 % 150) := nI_add 1 _
  have v5 : (nI y >>> ((22 : Int32) &&& 31) : Int32) - (nI y >>> ((22 : Int32) &&& 31) : Int32) / 51 * 51 = nI (y / 2 ^ 22 % 51) := shm hy 22 22 51 (by decide) (by decide) (by decide)
  rw [v0', v0, v1', v1, v2, v3, v4', v4, v5]
  have bN : y % 5 < 5 := Nat.mod_lt _ (by decide)
  have bM : y / 2 ^ 3 % 6 < 6 := Nat.mod_lt _ (by decide)
  have bw : y / 2 ^ 6 % 120 < 120 := Nat.mod_lt _ (by decide)
  have br1 : y / 2 ^ 13 % 3 < 3 := Nat.mod_lt _ (by decide)
  have bg : y / 2 ^ 15 % 150 < 150 := Nat.mod_lt _ (by decide)
  have bl : y / 2 ^ 22 % 51 < 51 := Nat.mod_lt _ (by decide)
  generalize y % 5 = N at *
  generalize y / 2 ^ 3 % 6 = M at *
  generalize y / 2 ^ 6 % 120 = w2 at *
  generalize y / 2 ^ 13 % 3 = w3 at *
  generalize y / 2 ^ 15 % 150 = g at *
  generalize y / 2 ^ 22 % 51 = l at *
  intro τ2 h2 τ3 h3 τ4 h4 τ5 h5 τ6 h6 τ7 h7 τ8 h8
  have X2 : WZ τ2 d b ds (mup E (18, 0, 0) 0 (nI (1 + N))) := by
    rw [h2]
    exact hX.arr (o := (18, 0, 0)) (by decide) _ _
  obtain ⟨E2, hE2⟩ : ∃ E' : Mem, E' = mup E (18, 0, 0) 0 (nI (1 + N)) := ⟨_, rfl⟩
  rw [← hE2] at X2
  have X3 : WZ τ3 d b ds (mup E2 (18, 0, 0) 1 (nI (1 + M))) := by
    rw [h3]
    exact X2.arr (o := (18, 0, 0)) (by decide) _ _
  obtain ⟨E3, hE3⟩ : ∃ E' : Mem, E' = mup E2 (18, 0, 0) 1 (nI (1 + M)) := ⟨_, rfl⟩
  rw [← hE3] at X3
  have X4 : WZ τ4 d b ds (mup E3 (18, 0, 0) 2 (nI w2)) := by
    rw [h4]
    exact X3.arr (o := (18, 0, 0)) (by decide) _ _
  obtain ⟨E4, hE4⟩ : ∃ E' : Mem, E' = mup E3 (18, 0, 0) 2 (nI w2) := ⟨_, rfl⟩
  rw [← hE4] at X4
  have X5 : WZ τ5 d b ds (mup E4 (18, 0, 0) 3 (nI w3)) := by
    rw [h5]
    exact X4.arr (o := (18, 0, 0)) (by decide) _ _
  obtain ⟨E5, hE5⟩ : ∃ E' : Mem, E' = mup E4 (18, 0, 0) 3 (nI w3) := ⟨_, rfl⟩
  rw [← hE5] at X5
  have X6 : WZ τ6 d b ds (mup E5 (16, 0, 0) 0 0) := by
    rw [h6]
    exact X5.arr (o := (16, 0, 0)) (by decide) _ _
  obtain ⟨E6, hE6⟩ : ∃ E' : Mem, E' = mup E5 (16, 0, 0) 0 0 := ⟨_, rfl⟩
  rw [← hE6] at X6
  have X7 : WZ τ7 d b ds (mup E6 (16, 0, 0) 1 (nI (1 + g))) := by
    rw [h7]
    exact X6.arr (o := (16, 0, 0)) (by decide) _ _
  obtain ⟨E7, hE7⟩ : ∃ E' : Mem, E' = mup E6 (16, 0, 0) 1 (nI (1 + g)) := ⟨_, rfl⟩
  rw [← hE7] at X7
  have X8 : WZ τ8 d b ds (mup E7 (16, 0, 0) 2 (nI l)) := by
    rw [h8]
    exact X7.arr (o := (16, 0, 0)) (by decide) _ _
  obtain ⟨E8, hE8⟩ : ∃ E' : Mem, E' = mup E7 (16, 0, 0) 2 (nI l) := ⟨_, rfl⟩
  rw [← hE8] at X8
  have k8 : E8 (18, 0, 0) = E5 (18, 0, 0) := by rw [hE8, mup_k _ _ _ (by decide : (18 : Nat) ≠ 16), hE7, mup_k _ _ _ (by decide : (18 : Nat) ≠ 16), hE6, mup_k _ _ _ (by decide : (18 : Nat) ≠ 16)]
  have a0 : E8 (18, 0, 0) 0 = nI (1 + N) := by rw [k8, hE5, mup_at, if_neg (by decide), hE4, mup_at, if_neg (by decide), hE3, mup_at, if_neg (by decide), hE2, mup_at, if_pos rfl]
  have a1 : E8 (18, 0, 0) 1 = nI (1 + M) := by rw [k8, hE5, mup_at, if_neg (by decide), hE4, mup_at, if_neg (by decide), hE3, mup_at, if_pos rfl]
  have a2 : E8 (18, 0, 0) 2 = nI w2 := by rw [k8, hE5, mup_at, if_neg (by decide), hE4, mup_at, if_pos rfl]
  have a3 : E8 (18, 0, 0) 3 = nI w3 := by rw [k8, hE5, mup_at, if_pos rfl]
  have g1 : E8 (16, 0, 0) 1 = nI (1 + g) := by rw [hE8, mup_at, if_neg (by decide), hE7, mup_at, if_pos rfl]
  have g2 : E8 (16, 0, 0) 2 = nI l := by rw [hE8, mup_at, if_pos rfl]
  rw [X8.2.2 (16, 0, 0) (by decide), g1, g2]
  refine K_setDitch (u := 0) hI X8 (by omega) (by omega) (by omega) (by omega) (fun σ9 I9 Z9 => ?_)
  rw [show d (50 + 0) = 100 from c50]
  refine ⟨fun z => absurd rfl z, fun _ => ?_⟩
  rw [Z9.2.2 (18, 0, 0) (by decide), a2]
  refine K_setSupply I9 Z9 (by omega) (fun σ10 I10 Z10 => ?_)
  rw [du_ne _ _ (by omega), du_ne _ _ (by omega), c12]
  refine ⟨fun z => absurd rfl z, fun _ => ?_⟩
  rw [Z10.2.2 (18, 0, 0) (by decide), a3]
  refine K_setRule I10 Z10 (by omega) (fun σ11 I11 Z11 => ?_)
  rw [spd_ne (by omega), du_ne _ _ (by omega), du_ne _ _ (by omega), c3]
  refine ⟨fun z => absurd rfl z, fun _ => ?_⟩
  have en : ∀ i, i ≠ 3 → (i < 12 ∨ 36 ≤ i) → i ≠ 50 → i ≠ 60 → du (spd (du (du d (50 + 0) (1 + g)) (60 + 0) l) 0 w2 24) 3 w3 i = d i := fun i q1 q2 q3 q4 => by
    rw [du_ne _ _ q1, spd_ne (by omega), du_ne _ _ (by omega), du_ne _ _ (by omega)]
  refine b130 (N := 1 + N) (M := 1 + M) (w2 := w2) I11 Z11 ⟨⟨a0, a1, a2, ?_⟩, by omega, fun h hh => ?_, fun k hk => ?_, fun u hu => ?_, ?_, fun i hi => ?_, fun u hu => ?_, ?_, ?_⟩ ?_ ?_ hL (fun σ' d' E' => hQ σ' d' E' _ _ _)
  · rw [du_self]
    exact a3
  · rw [du_ne _ _ (by omega)]
    have := spd_at (d := du (du d (50 + 0) (1 + g)) (60 + 0) l) (a := 0) (x := w2) (j := h) (k := 24) hh
    rw [Nat.zero_add] at this
    exact this
  · rw [en 1 (by omega) (by omega) (by omega) (by omega), c1] at hk
    have hk0 : k = 0 := by omega
    subst hk0
    rw [du_ne _ _ (by omega), spd_ne (by omega), du_ne _ _ (by omega), du_self, du_ne _ _ (by omega), spd_ne (by omega), du_self]
    exact ⟨g1, g2⟩
  · rw [en 2 (by omega) (by omega) (by omega) (by omega), c2] at hu
    exact absurd hu (Nat.not_lt_zero _)
  · rw [en 0 (by omega) (by omega) (by omega) (by omega), c0]
  · rw [en (5 + i) (by omega) (by omega) (by omega) (by omega)]
    exact cs i hi
  · rw [en 2 (by omega) (by omega) (by omega) (by omega), c2] at hu
    exact absurd hu (Nat.not_lt_zero _)
  · rw [en 1 (by omega) (by omega) (by omega) (by omega), c1]
    omega
  · rw [en 2 (by omega) (by omega) (by omega) (by omega), c2]
    omega
  · rw [en 1 (by omega) (by omega) (by omega) (by omega), c1]
  · rw [en 2 (by omega) (by omega) (by omega) (by omega), c2]
end BL
