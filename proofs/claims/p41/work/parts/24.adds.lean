/-! PART 24: a ditch more, a user more -/
section AD
variable {T : Nat} {d : Dst} {τ : Mem} {j : Nat}
def addD (d : Dst) (p g l : Nat) : Dst := du (du (du (du d (40 + d 1) p) (50 + d 1) g) (60 + d 1) l) 1 (d 1 + 1)
theorem addD_1 (p g l : Nat) : addD d p g l 1 = d 1 + 1 := du_self _ _ _
theorem addD_ne {p g l k : Nat} (h1 : k ≠ 1) (h2 : k ≠ 40 + d 1) (h3 : k ≠ 50 + d 1) (h4 : k ≠ 60 + d 1) : addD d p g l k = d k := by
  unfold addD
  rw [du_ne _ _ h1, du_ne _ _ h4, du_ne _ _ h3, du_ne _ _ h2]
theorem addD_p (p g l : Nat) (hN : d 1 < 10) : addD d p g l (40 + d 1) = p ∧ addD d p g l (50 + d 1) = g ∧ addD d p g l (60 + d 1) = l := by
  unfold addD
  refine ⟨?_, ?_, ?_⟩
  · rw [du_ne _ _ (by omega), du_ne _ _ (by omega), du_ne _ _ (by omega), du_self]
  · rw [du_ne _ _ (by omega), du_ne _ _ (by omega), du_self]
  · rw [du_ne _ _ (by omega), du_self]
theorem addD_geo (g : Geo d) (hN : d 1 < 10) {p gt l : Nat} (hp : p < d 1) (hg : 1 ≤ gt ∧ gt ≤ 200) (hl : l ≤ 50) : Geo (addD d p gt l) := by
  obtain ⟨⟨t1, t2, t3, t4, t5⟩, -, hn, h3, h4, hS, hG, hU, hR⟩ := g
  obtain ⟨e1, e2, e3⟩ := addD_p (d := d) p gt l hN
  have e0 := addD_1 (d := d) p gt l
  refine ⟨⟨by omega, ?_, fun c h0 hc => ?_, fun i hi => ?_, fun u hu => ?_⟩, by omega, ?_, ?_, ?_, fun h hh => ?_, fun i hi => ?_, fun u hu => ?_, hR.congr (addD_ne (by omega) (by omega) (by omega) (by omega)) (fun v hv => addD_ne (by omega) (by omega) (by omega) (by omega))⟩
  · rw [addD_ne (by omega) (by omega) (by omega) (by omega)]
    exact t2
  · rw [e0] at hc
    by_cases q : c = d 1
    · rw [q, e1]; exact hp
    · rw [addD_ne (by omega) (by omega) (by omega) (by omega)]
      exact t3 c h0 (by omega)
  · rw [e0] at hi
    by_cases q : i = d 1
    · rw [q, e3]; exact hl
    · rw [addD_ne (by omega) (by omega) (by omega) (by omega)]
      exact t4 i (by omega)
  · rw [addD_ne (by omega) (by omega) (by omega) (by omega)] at hu
    rw [addD_ne (by omega) (by omega) (by omega) (by omega), e0]
    exact Nat.lt_succ_of_lt (t5 u hu)
  · rw [addD_ne (by omega) (by omega) (by omega) (by omega)]; exact hn
  · rw [addD_ne (by omega) (by omega) (by omega) (by omega)]; exact h3
  · rw [addD_ne (by omega) (by omega) (by omega) (by omega)]; exact h4
  · rw [addD_ne (by omega) (by omega) (by omega) (by omega)]; exact hS h hh
  · rw [e0] at hi
    by_cases q : i = d 1
    · rw [q, e2]; exact hg
    · rw [addD_ne (by omega) (by omega) (by omega) (by omega)]
      exact hG i (by omega)
  · rw [addD_ne (by omega) (by omega) (by omega) (by omega)] at hu
    have g := hU u hu
    unfold UG at g ⊢
    simp (discharger := omega) only [addD_ne]
    exact g
theorem addD_cnt (c : Cnt T d) (hN : d 1 < 10) {p gt l : Nat} : Cnt T (addD d p gt l) := c.of (addD_ne (by omega) (by omega) (by omega) (by omega)) (addD_ne (by omega) (by omega) (by omega) (by omega)) (fun i hi => addD_ne (by omega) (by omega) (by omega) (by omega)) (fun u hu => addD_ne (by omega) (by omega) (by omega) (by omega))
theorem C_putDitch {p gt l : Nat} {Q : Mem → Prop} (g : Geo d) (hv : RepX τ j d) (hN : d 1 < 10) (hQ : ∀ τ' : Mem, (∀ o : Oid, o.1 ≠ 7 → o.1 ≠ 13 → τ' o = τ o) → FrJ j τ τ' → RepX τ' j (addD d p gt l) → Q τ') : J_X2_putDitch j (nI p) (nI gt) (nI l) τ Q := by
  have hn := g.nu
  obtain ⟨⟨a0, a1, a2, a3, a4⟩, b, c, e, gg, k⟩ := id hv
  obtain ⟨e1, e2, e3⟩ := addD_p (d := d) p gt l hN
  have e0 := addD_1 (d := d) p gt l
  unfold J_X2_putDitch J_X2_hasRoomForDitch
  rw [hv.nd, fa_lit 10]
  refine br_le (by omega) (by omega) (fun h => absurd h (by omega)) (fun _ => y1 ?_)
  rw [a1, nI_clamp (by omega)]
  refine ⟨vp_in_nI hN (by decide), ?_⟩
  unfold J_X0_begin
  rintro _ rfl _ rfl _ rfl
  rw [mup_k _ _ _ (by decide : (7 : Nat) ≠ 13), mup_k _ _ _ (by decide : (7 : Nat) ≠ 13), mup_k _ _ _ (by decide : (7 : Nat) ≠ 13), a1, nI_1]
  rintro _ rfl
  refine hQ _ (fun o h7 h13 => by rw [mup_o _ _ _ h7, mup_o _ _ _ h13, mup_o _ _ _ h13, mup_o _ _ _ h13]) ((((FrJ.rf.own (by decide) _ _).own (by decide) _ _).own (by decide) _ _).own (by decide) _ _) ⟨⟨?_, ?_, ?_, ?_, ?_⟩, fun i hi => ?_, fun i hi => ?_, fun i hi => ?_, fun v hv q hq => ?_, fun r hr => ?_⟩
  · rw [mup_other _ _ _ (by decide), mup_k _ _ _ (by decide : (7 : Nat) ≠ 13), mup_k _ _ _ (by decide : (7 : Nat) ≠ 13), mup_k _ _ _ (by decide : (7 : Nat) ≠ 13), addD_ne (by omega) (by omega) (by omega) (by omega)]
    exact a0
  · rw [mup_same, e0]
  · rw [mup_other _ _ _ (by decide), mup_k _ _ _ (by decide : (7 : Nat) ≠ 13), mup_k _ _ _ (by decide : (7 : Nat) ≠ 13), mup_k _ _ _ (by decide : (7 : Nat) ≠ 13), addD_ne (by omega) (by omega) (by omega) (by omega)]
    exact a2
  · rw [mup_other _ _ _ (by decide), mup_k _ _ _ (by decide : (7 : Nat) ≠ 13), mup_k _ _ _ (by decide : (7 : Nat) ≠ 13), mup_k _ _ _ (by decide : (7 : Nat) ≠ 13), addD_ne (by omega) (by omega) (by omega) (by omega)]
    exact a3
  · rw [mup_other _ _ _ (by decide), mup_k _ _ _ (by decide : (7 : Nat) ≠ 13), mup_k _ _ _ (by decide : (7 : Nat) ≠ 13), mup_k _ _ _ (by decide : (7 : Nat) ≠ 13), addD_ne (by omega) (by omega) (by omega) (by omega)]
    exact a4
  · rw [mup_k _ _ _ (by decide : (12 : Nat) ≠ 7), mup_k _ _ _ (by decide : (12 : Nat) ≠ 13), mup_k _ _ _ (by decide : (12 : Nat) ≠ 13), mup_k _ _ _ (by decide : (12 : Nat) ≠ 13), addD_ne (by omega) (by omega) (by omega) (by omega)]
    exact b i hi
  · rw [mup_k _ _ _ (by decide : (11 : Nat) ≠ 7), mup_k _ _ _ (by decide : (11 : Nat) ≠ 13), mup_k _ _ _ (by decide : (11 : Nat) ≠ 13), mup_k _ _ _ (by decide : (11 : Nat) ≠ 13), addD_ne (by omega) (by omega) (by omega) (by omega)]
    exact c i hi
  · rw [e0] at hi
    rw [mup_k _ _ _ (by decide : (13 : Nat) ≠ 7)]
    by_cases q : i = d 1
    · rw [q, e1, e2, e3, mup_same, mup_other _ _ _ (by decide), mup_other _ _ _ (by decide), mup_same, mup_other _ _ _ (by decide), mup_same]
      exact ⟨rfl, rfl, rfl⟩
    · rw [mup_k3 _ _ _ q, mup_k3 _ _ _ q, mup_k3 _ _ _ q, addD_ne (by omega) (by omega) (by omega) (by omega), addD_ne (by omega) (by omega) (by omega) (by omega), addD_ne (by omega) (by omega) (by omega) (by omega)]
      exact e i (by omega)
  · rw [addD_ne (by omega) (by omega) (by omega) (by omega)] at hv
    rw [mup_k _ _ _ (by decide : (14 : Nat) ≠ 7), mup_k _ _ _ (by decide : (14 : Nat) ≠ 13), mup_k _ _ _ (by decide : (14 : Nat) ≠ 13), mup_k _ _ _ (by decide : (14 : Nat) ≠ 13), addD_ne (by omega) (by omega) (by omega) (by omega)]
    exact gg v hv q hq
  · rw [addD_ne (by omega) (by omega) (by omega) (by omega)] at hr
    rw [mup_k _ _ _ (by decide : (10 : Nat) ≠ 7), mup_k _ _ _ (by decide : (10 : Nat) ≠ 13), mup_k _ _ _ (by decide : (10 : Nat) ≠ 13), mup_k _ _ _ (by decide : (10 : Nat) ≠ 13), rkd_congr (addD_ne (by omega) (by omega) (by omega) (by omega)) (fun v hv => addD_ne (by omega) (by omega) (by omega) (by omega))]
    exact k r hr
-- a user more
def zsd (d : Dst) (u : Nat) : Nat → Dst
  | 0 => d
  | i + 1 => du (zsd d u i) (70 + u + 12 * i) 0
theorem zsd_ne {u k : Nat} : ∀ {i : Nat}, (∀ q, q < i → k ≠ 70 + u + 12 * q) → zsd d u i k = d k
  | 0, _ => rfl
  | i + 1, h => by
    show du _ _ _ k = _
    rw [du_ne _ _ (h i (by omega))]
    exact zsd_ne (fun q hq => h q (by omega))
theorem zsd_eq {u q : Nat} : ∀ {i : Nat}, q < i → zsd d u i (70 + u + 12 * q) = 0
  | 0, h => absurd h (Nat.not_lt_zero _)
  | i + 1, h => by
    show du _ _ _ _ = _
    by_cases z : q = i
    · rw [z, du_self]
    · rw [du_ne _ _ (by omega)]
      exact zsd_eq (by omega)
def addU (d : Dst) (p y r : Nat) : Dst := du (du (du (du (zsd d (d 2) 12) (70 + d 2) p) (82 + d 2) y) (94 + d 2) r) 2 (d 2 + 1)
theorem addU_2 (p y r : Nat) : addU d p y r 2 = d 2 + 1 := du_self _ _ _
theorem addU_lo {p y r k : Nat} (h1 : k ≠ 2) (h2 : k < 70) : addU d p y r k = d k := by
  unfold addU
  rw [du_ne _ _ h1, du_ne _ _ (by omega), du_ne _ _ (by omega), du_ne _ _ (by omega)]
  exact zsd_ne (fun q _ => by omega)
theorem addU_old {p y r f v : Nat} (hf : f < 12) (hv : v < d 2) (hn : d 2 < 12) : addU d p y r (70 + 12 * f + v) = d (70 + 12 * f + v) := by
  unfold addU
  rw [du_ne _ _ (by omega), du_ne _ _ (by omega), du_ne _ _ (by omega), du_ne _ _ (by omega)]
  exact zsd_ne (fun q _ => by omega)
theorem addU_new {p y r f : Nat} (hf : f < 12) (hn : d 2 < 12) : addU d p y r (70 + 12 * f + d 2) = if f = 0 then p else if f = 1 then y else if f = 2 then r else 0 := by
  unfold addU
  rw [du_ne _ _ (by omega)]
  by_cases h2 : f = 2
  · subst h2
    exact du_self _ _ _
  · rw [du_ne _ _ (by omega)]
    by_cases h1 : f = 1
    · subst h1
      exact du_self _ _ _
    · rw [du_ne _ _ (by omega)]
      by_cases h0 : f = 0
      · subst h0
        exact du_self _ _ _
      · rw [du_ne _ _ (by omega), if_neg h0, if_neg h1, if_neg h2]
        have := zsd_eq (d := d) (u := d 2) (q := f) (i := 12) hf
        rw [show 70 + 12 * f + d 2 = 70 + d 2 + 12 * f by omega]
        exact this
theorem addU_y {p y r v : Nat} (hv : v < d 2) (hn : d 2 < 12) : addU d p y r (82 + v) = d (82 + v) := addU_old (f := 1) (by decide) hv hn
theorem addU_yn {p y r : Nat} (hn : d 2 < 12) : addU d p y r (82 + d 2) = y := addU_new (f := 1) (by decide) hn
/-- the ranks behind the new user's are one more -/
theorem addU_cnt {p y r v : Nat} (hv : v < d 2) (hn : d 2 < 12) : cnt (addU d p y r) v (d 2 + 1) = cnt d v (d 2) + if y < d (82 + v) then 1 else 0 := by
  show cnt _ _ (d 2) + (if older (addU d p y r) (d 2) v then 1 else 0) = _
  rw [cnt_congr (n := d 2) (fun w hw => addU_y hw hn) hv (d 2) (Nat.le_refl _)]
  have e : older (addU d p y r) (d 2) v ↔ y < d (82 + v) := by
    unfold older
    rw [addU_yn hn, addU_y hv hn]
    constructor
    · rintro (h | h) <;> omega
    · intro h; left; exact h
  simp only [e]
/-- the ranks are sorted by years -/
theorem rk_year (hR : Rk d) {r s : Nat} (hrs : r < s) (hs : s < d 2) : d (82 + rkd d r) ≤ d (82 + rkd d s) := by
  obtain ⟨a1, a2⟩ := hR r (by omega)
  obtain ⟨b1, b2⟩ := hR s hs
  rcases Nat.lt_or_ge (d (82 + rkd d s)) (d (82 + rkd d r)) with q | q
  · have := cnt_lt (d := d) (u := rkd d s) (v := rkd d r) (Or.inl q) b1
    omega
  · exact q
/-- where the new user comes: k is its rank -/
def Ins (d : Dst) (y k : Nat) : Prop := k ≤ d 2 ∧ (∀ r, r < k → d (82 + rkd d r) ≤ y) ∧ ∀ r, k ≤ r → r < d 2 → y < d (82 + rkd d r)
theorem addU_rank {p y r k : Nat} (hR : Rk d) (hn : d 2 < 12) (hk : Ins d y k) : cnt (addU d p y r) (d 2) (d 2 + 1) = k := by
  have e0 : cnt (addU d p y r) (d 2) (d 2 + 1) = cnt (addU d p y r) (d 2) (d 2) := by
    show _ + (if older (addU d p y r) (d 2) (d 2) then 1 else 0) = _
    rw [if_neg (older_irr _)]
    rfl
  have hle := cnt_le (d := addU d p y r) (d 2) (d 2)
  obtain ⟨k1, k2, k3⟩ := hk
  have up : k ≤ cnt (addU d p y r) (d 2) (d 2 + 1) := by
    rcases Nat.eq_zero_or_pos k with q | q
    · omega
    · obtain ⟨a1, a2⟩ := hR (k - 1) (by omega)
      have hy := k2 (k - 1) (by omega)
      have ho : older (addU d p y r) (rkd d (k - 1)) (d 2) := by
        unfold older
        rw [addU_yn hn, addU_y a1 hn]
        omega
      have h1 := cnt_lt ho (m := d 2 + 1) (by omega)
      rw [addU_cnt a1 hn, a2, if_neg (by omega)] at h1
      omega
  rcases Nat.lt_or_ge k (d 2) with q | q
  · obtain ⟨a1, a2⟩ := hR k q
    have hy := k3 k (Nat.le_refl _) q
    have ho : older (addU d p y r) (d 2) (rkd d k) := by
      unfold older
      rw [addU_yn hn, addU_y a1 hn]
      exact Or.inl hy
    have h1 := cnt_lt ho (m := d 2 + 1) (by omega)
    rw [addU_cnt a1 hn, a2, if_pos hy] at h1
    omega
  · omega
theorem addU_rkd {p y r k : Nat} (hR : Rk d) (hn : d 2 < 12) (hk : Ins d y k) : ∀ s, s < d 2 + 1 → rkd (addU d p y r) s = (if s < k then rkd d s else if s = k then d 2 else rkd d (s - 1)) ∧ rkd (addU d p y r) s < d 2 + 1 ∧ cnt (addU d p y r) (rkd (addU d p y r) s) (d 2 + 1) = s := by
  intro s hs
  have e2 := addU_2 (d := d) p y r
  have fin : ∀ v, v < d 2 + 1 → cnt (addU d p y r) v (d 2 + 1) = s → rkd (addU d p y r) s = v ∧ rkd (addU d p y r) s < d 2 + 1 ∧ cnt (addU d p y r) (rkd (addU d p y r) s) (d 2 + 1) = s := by
    intro v hv hc
    have h1 : rkd (addU d p y r) s = v := rkd_of (by rw [e2]; exact hv) (by rw [e2]; exact hc)
    rw [h1]
    exact ⟨rfl, hv, hc⟩
  obtain ⟨k1, k2, k3⟩ := id hk
  by_cases q1 : s < k
  · rw [if_pos q1]
    obtain ⟨a1, a2⟩ := hR s (by omega)
    have hy := k2 s q1
    exact fin _ (by omega) (by rw [addU_cnt a1 hn, a2, if_neg (by omega)]; rfl)
  · rw [if_neg q1]
    by_cases q2 : s = k
    · rw [if_pos q2]
      exact fin _ (by omega) (by rw [addU_rank hR hn hk, q2])
    · rw [if_neg q2]
      obtain ⟨a1, a2⟩ := hR (s - 1) (by omega)
      have hy := k3 (s - 1) (by omega) (by omega)
      exact fin _ (by omega) (by rw [addU_cnt a1 hn, a2, if_pos hy]; omega)
theorem ins_ex (hR : Rk d) (y : Nat) : ∃ k, Ins d y k := by
  have : ∀ m, m ≤ d 2 → (∀ r, m ≤ r → r < d 2 → y < d (82 + rkd d r)) → ∃ k, Ins d y k := by
    intro m
    induction m with
    | zero => intro _ h; exact ⟨0, Nat.zero_le _, fun r hr => absurd hr (Nat.not_lt_zero _), h⟩
    | succ m ih =>
      intro hm h
      rcases Nat.lt_or_ge y (d (82 + rkd d m)) with q | q
      · refine ih (by omega) (fun r h1 h2 => ?_)
        by_cases z : r = m
        · rw [z]; exact q
        · exact h r (by omega) h2
      · refine ⟨m + 1, hm, fun r hr => ?_, h⟩
        by_cases z : r = m
        · rw [z]; exact q
        · exact Nat.le_trans (rk_year hR (by omega : r < m) (by omega)) q
  exact this (d 2) (Nat.le_refl _) (fun r h1 h2 => absurd h1 (by omega))
theorem addU_geo (g : Geo d) (hn : d 2 < 12) {p y r : Nat} (hp : p < d 1) (hy : y ≤ 2099) (hr : r ≤ 60) : Geo (addU d p y r) := by
  obtain ⟨⟨t1, t2, t3, t4, t5⟩, hN, -, h3, h4, hS, hG, hU, hR⟩ := g
  have e2 := addU_2 (d := d) p y r
  have e1 : addU d p y r 1 = d 1 := addU_lo (by omega) (by omega)
  obtain ⟨k, hk⟩ := ins_ex hR y
  refine ⟨⟨by omega, ?_, fun c h0 hc => ?_, fun i hi => ?_, fun u hu => ?_⟩, by omega, by omega, ?_, ?_, fun h hh => ?_, fun i hi => ?_, fun u hu => ?_, fun s hs => ?_⟩
  · rw [addU_lo (by omega) (by omega)]; exact t2
  · rw [e1] at hc
    rw [addU_lo (by omega) (by omega)]
    exact t3 c h0 hc
  · rw [e1] at hi
    rw [addU_lo (by omega) (by omega)]
    exact t4 i hi
  · rw [e2] at hu
    rw [e1]
    by_cases q : u = d 2
    · rw [q]
      have := addU_new (d := d) (p := p) (y := y) (r := r) (f := 0) (by decide) hn
      rw [if_pos rfl] at this
      have e : addU d p y r (70 + d 2) = p := this
      rw [e]
      exact hp
    · have : addU d p y r (70 + u) = d (70 + u) := addU_old (f := 0) (by decide) (by omega) hn
      rw [this]
      exact t5 u (by omega)
  · rw [addU_lo (by omega) (by omega)]; exact h3
  · rw [addU_lo (by omega) (by omega)]; exact h4
  · rw [addU_lo (by omega) (by omega)]; exact hS h hh
  · rw [e1] at hi
    rw [addU_lo (by omega) (by omega)]
    exact hG i hi
  · rw [e2] at hu
    have A : ∀ f, f < 12 → ∀ w, w < d 2 → addU d p y r (70 + 12 * f + w) = d (70 + 12 * f + w) := fun f hf w hw => addU_old hf hw hn
    by_cases q : u = d 2
    · subst q
      have B : ∀ f, f < 12 → addU d p y r (70 + 12 * f + d 2) = if f = 0 then p else if f = 1 then y else if f = 2 then r else 0 := fun f hf => addU_new hf hn
      have b1 : addU d p y r (82 + d 2) = y := B 1 (by decide)
      have b2 : addU d p y r (94 + d 2) = r := B 2 (by decide)
      have b3 : addU d p y r (106 + d 2) = 0 := B 3 (by decide)
      have b4 : addU d p y r (118 + d 2) = 0 := B 4 (by decide)
      have b5 : addU d p y r (130 + d 2) = 0 := B 5 (by decide)
      have b6 : addU d p y r (142 + d 2) = 0 := B 6 (by decide)
      have b7 : addU d p y r (154 + d 2) = 0 := B 7 (by decide)
      have b8 : addU d p y r (166 + d 2) = 0 := B 8 (by decide)
      have b9 : addU d p y r (178 + d 2) = 0 := B 9 (by decide)
      have b11 : addU d p y r (202 + d 2) = 0 := B 11 (by decide)
      unfold UG
      rw [b1, b2, b3, b4, b5, b6, b7, b8, b9, b11]
      omega
    · have hu2 : u < d 2 := by omega
      have g := hU u hu2
      have b1 : addU d p y r (82 + u) = d (82 + u) := A 1 (by decide) u hu2
      have b2 : addU d p y r (94 + u) = d (94 + u) := A 2 (by decide) u hu2
      have b3 : addU d p y r (106 + u) = d (106 + u) := A 3 (by decide) u hu2
      have b4 : addU d p y r (118 + u) = d (118 + u) := A 4 (by decide) u hu2
      have b5 : addU d p y r (130 + u) = d (130 + u) := A 5 (by decide) u hu2
      have b6 : addU d p y r (142 + u) = d (142 + u) := A 6 (by decide) u hu2
      have b7 : addU d p y r (154 + u) = d (154 + u) := A 7 (by decide) u hu2
      have b8 : addU d p y r (166 + u) = d (166 + u) := A 8 (by decide) u hu2
      have b9 : addU d p y r (178 + u) = d (178 + u) := A 9 (by decide) u hu2
      have b11 : addU d p y r (202 + u) = d (202 + u) := A 11 (by decide) u hu2
      unfold UG at g ⊢
      rw [b1, b2, b3, b4, b5, b6, b7, b8, b9, b11]
      exact g
  · rw [e2] at hs
    have h := addU_rkd (p := p) (r := r) hR hn hk s hs
    rw [e2]
    exact h.2
theorem addU_cnt2 (c : Cnt T d) (hn : d 2 < 12) {p y r : Nat} : Cnt T (addU d p y r) := by
  obtain ⟨c0, cT, cA, cM⟩ := c
  refine ⟨?_, cT, fun i hi => ?_, fun u hu => ?_⟩
  · rw [addU_lo (by omega) (by omega)]; exact c0
  · rw [addU_lo (by omega) (by omega)]; exact cA i hi
  · rw [addU_2] at hu
    by_cases q : u = d 2
    · subst q
      have : addU d p y r (190 + d 2) = 0 := addU_new (f := 10) (by decide) hn
      rw [this]
      exact Nat.zero_le _
    · have : addU d p y r (190 + u) = d (190 + u) := addU_old (f := 10) (by decide) (by omega) hn
      rw [this]
      exact cM u (by omega)
end AD
