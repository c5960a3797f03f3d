/-! PART 18 (written by wip/whole/gen18.py): changes of one number (du), on both sides; the bounds that stay (Geo) -/
def du (d : Dst) (k x : Nat) : Dst := fun i => if i = k then x else d i
theorem du_self (d : Dst) (k x : Nat) : du d k x k = x := if_pos rfl
theorem du_ne (d : Dst) {k i : Nat} (x : Nat) (h : i ≠ k) : du d k x i = d i := if_neg h
theorem cnt_congr {d d' : Dst} {n u : Nat} (hy : ∀ v, v < n → d' (82 + v) = d (82 + v)) (hu : u < n) : ∀ m, m ≤ n → cnt d' u m = cnt d u m
  | 0, _ => rfl
  | m + 1, h => by
    have e : older d' m u ↔ older d m u := by
      unfold older
      rw [hy m (by omega), hy u hu]
    simp only [cnt, cnt_congr hy hu m (by omega), e]
theorem rfd_congr {d d' : Dst} (h2 : d' 2 = d 2) (hy : ∀ v, v < d 2 → d' (82 + v) = d (82 + v)) (r : Nat) : ∀ (k u : Nat), u + k ≤ d 2 → rfd d' r k u = rfd d r k u
  | 0, _, _ => rfl
  | k + 1, u, h => by
    simp only [rfd, h2]
    rw [cnt_congr hy (by omega) (d 2) (Nat.le_refl _), rfd_congr h2 hy r k (u + 1) (by omega)]
theorem rkd_congr {d d' : Dst} (h2 : d' 2 = d 2) (hy : ∀ v, v < d 2 → d' (82 + v) = d (82 + v)) (r : Nat) : rkd d' r = rkd d r := by
  unfold rkd
  rw [h2]
  exact rfd_congr h2 hy r _ 0 (by omega)
theorem Rk.congr {d d' : Dst} (h : Rk d) (h2 : d' 2 = d 2) (hy : ∀ v, v < d 2 → d' (82 + v) = d (82 + v)) : Rk d' := by
  intro r hr
  rw [h2] at hr
  obtain ⟨a, b⟩ := h r hr
  rw [rkd_congr h2 hy, h2, cnt_congr hy a (d 2) (Nat.le_refl _)]
  exact ⟨a, b⟩
theorem oid_ne {a b : Oid} (h : a.1 ≠ b.1) : a ≠ b := fun z => h (by rw [z])
theorem mup_k (σ : Mem) {a b c e c' e' : Nat} (k : Nat) (x : Int32) (h : a ≠ b) : mup σ (b, c', e') k x (a, c, e) = σ (a, c, e) := mup_ne _ _ _ (oid_ne h)
theorem mup_k3 (σ : Mem) {a b c e c' e' : Nat} (k : Nat) (x : Int32) (h : e ≠ e') : mup σ (b, c', e') k x (a, c, e) = σ (a, c, e) := mup_ne _ _ _ (fun z => h (congrArg (fun o : Oid => o.2.2) z))
theorem mup_o (σ : Mem) {o : Oid} {b c' e' : Nat} (k : Nat) (x : Int32) (h : o.1 ≠ b) : mup σ (b, c', e') k x o = σ o := mup_ne _ _ _ (fun z => h (by rw [z]))
theorem oid_ne3 {a b : Oid} (h : a.2.2 ≠ b.2.2) : a ≠ b := fun z => h (by rw [z])
section RD
variable {σ : Mem} {j : Nat} {d : Dst}
theorem RepX.setU (h : RepX σ j d) (h1 : d 1 ≤ 10) (h2 : d 2 ≤ 12) {u f : Nat} (hu : u < d 2) (hf : f < 12) (hf1 : f ≠ 1) (x : Nat) : RepX (mup σ (14, j, u) f (nI x)) j (du d (70 + 12 * f + u) x) := by
  obtain ⟨a, b, c, e, g, k⟩ := h
  have e1 : du d (70 + 12 * f + u) x 1 = d 1 := du_ne _ _ (by omega)
  have e2 : du d (70 + 12 * f + u) x 2 = d 2 := du_ne _ _ (by omega)
  refine ⟨?_, fun i hi => ?_, fun i hi => ?_, fun i hi => ?_, fun v hv q hq => ?_, fun r hr => ?_⟩
  · rw [mup_k _ _ _ (by decide : (7 : Nat) ≠ 14), e1, e2, du_ne _ _ (by omega), du_ne _ _ (by omega), du_ne _ _ (by omega)]
    exact a
  · rw [mup_k _ _ _ (by decide : (12 : Nat) ≠ 14), du_ne _ _ (by omega)]
    exact b i hi
  · rw [mup_k _ _ _ (by decide : (11 : Nat) ≠ 14), du_ne _ _ (by omega)]
    exact c i hi
  · rw [e1] at hi
    rw [mup_k _ _ _ (by decide : (13 : Nat) ≠ 14), du_ne _ _ (by omega), du_ne _ _ (by omega), du_ne _ _ (by omega)]
    exact e i hi
  · rw [e2] at hv
    by_cases hvu : v = u
    · subst hvu
      rw [mup_at]
      by_cases hqf : q = f
      · rw [if_pos hqf, hqf, du_self]
      · rw [if_neg hqf, du_ne _ _ (by omega)]
        exact g v hv q hq
    · rw [mup_k3 _ _ _ hvu, du_ne _ _ (by omega)]
      exact g v hv q hq
  · rw [e2] at hr
    rw [mup_k _ _ _ (by decide : (10 : Nat) ≠ 14), rkd_congr e2 (fun v hv => du_ne _ _ (by omega))]
    exact k r hr
theorem RepX.setD (h : RepX σ j d) (h1 : d 1 ≤ 10) {i f : Nat} (hi0 : i < d 1) (hf : f < 3) (x : Nat) : RepX (mup σ (13, j, i) f (nI x)) j (du d (40 + 10 * f + i) x) := by
  obtain ⟨a, b, c, e, g, k⟩ := h
  have e1 : du d (40 + 10 * f + i) x 1 = d 1 := du_ne _ _ (by omega)
  have e2 : du d (40 + 10 * f + i) x 2 = d 2 := du_ne _ _ (by omega)
  refine ⟨?_, fun q hq => ?_, fun q hq => ?_, fun q hq => ?_, fun v hv q hq => ?_, fun r hr => ?_⟩
  · rw [mup_k _ _ _ (by decide : (7 : Nat) ≠ 13), e1, e2, du_ne _ _ (by omega), du_ne _ _ (by omega), du_ne _ _ (by omega)]
    exact a
  · rw [mup_k _ _ _ (by decide : (12 : Nat) ≠ 13), du_ne _ _ (by omega)]
    exact b q hq
  · rw [mup_k _ _ _ (by decide : (11 : Nat) ≠ 13), du_ne _ _ (by omega)]
    exact c q hq
  · rw [e1] at hq
    obtain ⟨p0, p1, p2⟩ := e q hq
    by_cases hqi : q = i
    · subst hqi
      rw [mup_at, mup_at, mup_at]
      refine ⟨?_, ?_, ?_⟩
      · by_cases z : 0 = f
        · rw [if_pos z, ← z, du_self]
        · rw [if_neg z, du_ne _ _ (by omega)]; exact p0
      · by_cases z : 1 = f
        · rw [if_pos z, ← z, du_self]
        · rw [if_neg z, du_ne _ _ (by omega)]; exact p1
      · by_cases z : 2 = f
        · rw [if_pos z, ← z, du_self]
        · rw [if_neg z, du_ne _ _ (by omega)]; exact p2
    · rw [mup_k3 _ _ _ hqi, du_ne _ _ (by omega), du_ne _ _ (by omega), du_ne _ _ (by omega)]
      exact ⟨p0, p1, p2⟩
  · rw [e2] at hv
    rw [mup_k _ _ _ (by decide : (14 : Nat) ≠ 13), du_ne _ _ (by omega)]
    exact g v hv q hq
  · rw [e2] at hr
    rw [mup_k _ _ _ (by decide : (10 : Nat) ≠ 13), rkd_congr e2 (fun v hv => du_ne _ _ (by omega))]
    exact k r hr
theorem RepX.setA (h : RepX σ j d) (h1 : d 1 ≤ 10) {i : Nat} (hi0 : i < 7) (x : Nat) : RepX (mup σ (12, j, 0) i (nI x)) j (du d (5 + i) x) := by
  obtain ⟨a, b, c, e, g, k⟩ := h
  have e1 : du d (5 + i) x 1 = d 1 := du_ne _ _ (by omega)
  have e2 : du d (5 + i) x 2 = d 2 := du_ne _ _ (by omega)
  refine ⟨?_, fun q hq => ?_, fun q hq => ?_, fun q hq => ?_, fun v hv q hq => ?_, fun r hr => ?_⟩
  · rw [mup_k _ _ _ (by decide : (7 : Nat) ≠ 12), e1, e2, du_ne _ _ (by omega), du_ne _ _ (by omega), du_ne _ _ (by omega)]
    exact a
  · rw [mup_at]
    by_cases z : q = i
    · rw [if_pos z, z, du_self]
    · rw [if_neg z, du_ne _ _ (by omega)]
      exact b q hq
  · rw [mup_k _ _ _ (by decide : (11 : Nat) ≠ 12), du_ne _ _ (by omega)]
    exact c q hq
  · rw [e1] at hq
    rw [mup_k _ _ _ (by decide : (13 : Nat) ≠ 12), du_ne _ _ (by omega), du_ne _ _ (by omega), du_ne _ _ (by omega)]
    exact e q hq
  · rw [e2] at hv
    rw [mup_k _ _ _ (by decide : (14 : Nat) ≠ 12), du_ne _ _ (by omega)]
    exact g v hv q hq
  · rw [e2] at hr
    rw [mup_k _ _ _ (by decide : (10 : Nat) ≠ 12), rkd_congr e2 (fun v hv => du_ne _ _ (by omega))]
    exact k r hr
theorem RepX.setS (h : RepX σ j d) (h1 : d 1 ≤ 10) {i : Nat} (hi0 : i < 24) (x : Nat) : RepX (mup σ (11, j, 0) i (nI x)) j (du d (12 + i) x) := by
  obtain ⟨a, b, c, e, g, k⟩ := h
  have e1 : du d (12 + i) x 1 = d 1 := du_ne _ _ (by omega)
  have e2 : du d (12 + i) x 2 = d 2 := du_ne _ _ (by omega)
  refine ⟨?_, fun q hq => ?_, fun q hq => ?_, fun q hq => ?_, fun v hv q hq => ?_, fun r hr => ?_⟩
  · rw [mup_k _ _ _ (by decide : (7 : Nat) ≠ 11), e1, e2, du_ne _ _ (by omega), du_ne _ _ (by omega), du_ne _ _ (by omega)]
    exact a
  · rw [mup_k _ _ _ (by decide : (12 : Nat) ≠ 11), du_ne _ _ (by omega)]
    exact b q hq
  · rw [mup_at]
    by_cases z : q = i
    · rw [if_pos z, z, du_self]
    · rw [if_neg z, du_ne _ _ (by omega)]
      exact c q hq
  · rw [e1] at hq
    rw [mup_k _ _ _ (by decide : (13 : Nat) ≠ 11), du_ne _ _ (by omega), du_ne _ _ (by omega), du_ne _ _ (by omega)]
    exact e q hq
  · rw [e2] at hv
    rw [mup_k _ _ _ (by decide : (14 : Nat) ≠ 11), du_ne _ _ (by omega)]
    exact g v hv q hq
  · rw [e2] at hr
    rw [mup_k _ _ _ (by decide : (10 : Nat) ≠ 11), rkd_congr e2 (fun v hv => du_ne _ _ (by omega))]
    exact k r hr
theorem RepX.setT (h : RepX σ j d) (x : Nat) : RepX (mup σ (7, j, 0) 9 (nI x)) j (du d 0 x) := by
  obtain ⟨⟨a0, a1, a2, a3, a4⟩, b, c, e, g, k⟩ := h
  have e1 : du d 0 x 1 = d 1 := du_ne _ _ (by omega)
  have e2 : du d 0 x 2 = d 2 := du_ne _ _ (by omega)
  refine ⟨⟨?_, ?_, ?_, ?_, ?_⟩, fun q hq => ?_, fun q hq => ?_, fun q hq => ?_, fun v hv q hq => ?_, fun r hr => ?_⟩
  · rw [mup_same, du_self]
  · rw [mup_other _ _ _ (by decide), du_ne _ _ (by decide)]
    exact a1
  · rw [mup_other _ _ _ (by decide), du_ne _ _ (by decide)]
    exact a2
  · rw [mup_other _ _ _ (by decide), du_ne _ _ (by decide)]
    exact a3
  · rw [mup_other _ _ _ (by decide), du_ne _ _ (by decide)]
    exact a4
  · rw [mup_k _ _ _ (by decide : (12 : Nat) ≠ 7), du_ne _ _ (by omega)]
    exact b q hq
  · rw [mup_k _ _ _ (by decide : (11 : Nat) ≠ 7), du_ne _ _ (by omega)]
    exact c q hq
  · rw [e1] at hq
    rw [mup_k _ _ _ (by decide : (13 : Nat) ≠ 7), du_ne _ _ (by omega), du_ne _ _ (by omega), du_ne _ _ (by omega)]
    exact e q hq
  · rw [e2] at hv
    rw [mup_k _ _ _ (by decide : (14 : Nat) ≠ 7), du_ne _ _ (by omega)]
    exact g v hv q hq
  · rw [e2] at hr
    rw [mup_k _ _ _ (by decide : (10 : Nat) ≠ 7), rkd_congr e2 (fun v hv => du_ne _ _ (by omega))]
    exact k r hr
theorem RepX.setR (h : RepX σ j d) (x : Nat) : RepX (mup σ (7, j, 0) 7 (nI x)) j (du d 3 x) := by
  obtain ⟨⟨a0, a1, a2, a3, a4⟩, b, c, e, g, k⟩ := h
  have e1 : du d 3 x 1 = d 1 := du_ne _ _ (by omega)
  have e2 : du d 3 x 2 = d 2 := du_ne _ _ (by omega)
  refine ⟨⟨?_, ?_, ?_, ?_, ?_⟩, fun q hq => ?_, fun q hq => ?_, fun q hq => ?_, fun v hv q hq => ?_, fun r hr => ?_⟩
  · rw [mup_other _ _ _ (by decide), du_ne _ _ (by decide)]
    exact a0
  · rw [mup_other _ _ _ (by decide), du_ne _ _ (by decide)]
    exact a1
  · rw [mup_other _ _ _ (by decide), du_ne _ _ (by decide)]
    exact a2
  · rw [mup_same, du_self]
  · rw [mup_other _ _ _ (by decide), du_ne _ _ (by decide)]
    exact a4
  · rw [mup_k _ _ _ (by decide : (12 : Nat) ≠ 7), du_ne _ _ (by omega)]
    exact b q hq
  · rw [mup_k _ _ _ (by decide : (11 : Nat) ≠ 7), du_ne _ _ (by omega)]
    exact c q hq
  · rw [e1] at hq
    rw [mup_k _ _ _ (by decide : (13 : Nat) ≠ 7), du_ne _ _ (by omega), du_ne _ _ (by omega), du_ne _ _ (by omega)]
    exact e q hq
  · rw [e2] at hv
    rw [mup_k _ _ _ (by decide : (14 : Nat) ≠ 7), du_ne _ _ (by omega)]
    exact g v hv q hq
  · rw [e2] at hr
    rw [mup_k _ _ _ (by decide : (10 : Nat) ≠ 7), rkd_congr e2 (fun v hv => du_ne _ _ (by omega))]
    exact k r hr
theorem RepX.setF (h : RepX σ j d) (x : Nat) : RepX (mup σ (7, j, 0) 8 (nI x)) j (du d 4 x) := by
  obtain ⟨⟨a0, a1, a2, a3, a4⟩, b, c, e, g, k⟩ := h
  have e1 : du d 4 x 1 = d 1 := du_ne _ _ (by omega)
  have e2 : du d 4 x 2 = d 2 := du_ne _ _ (by omega)
  refine ⟨⟨?_, ?_, ?_, ?_, ?_⟩, fun q hq => ?_, fun q hq => ?_, fun q hq => ?_, fun v hv q hq => ?_, fun r hr => ?_⟩
  · rw [mup_other _ _ _ (by decide), du_ne _ _ (by decide)]
    exact a0
  · rw [mup_other _ _ _ (by decide), du_ne _ _ (by decide)]
    exact a1
  · rw [mup_other _ _ _ (by decide), du_ne _ _ (by decide)]
    exact a2
  · rw [mup_other _ _ _ (by decide), du_ne _ _ (by decide)]
    exact a3
  · rw [mup_same, du_self]
  · rw [mup_k _ _ _ (by decide : (12 : Nat) ≠ 7), du_ne _ _ (by omega)]
    exact b q hq
  · rw [mup_k _ _ _ (by decide : (11 : Nat) ≠ 7), du_ne _ _ (by omega)]
    exact c q hq
  · rw [e1] at hq
    rw [mup_k _ _ _ (by decide : (13 : Nat) ≠ 7), du_ne _ _ (by omega), du_ne _ _ (by omega), du_ne _ _ (by omega)]
    exact e q hq
  · rw [e2] at hv
    rw [mup_k _ _ _ (by decide : (14 : Nat) ≠ 7), du_ne _ _ (by omega)]
    exact g v hv q hq
  · rw [e2] at hr
    rw [mup_k _ _ _ (by decide : (10 : Nat) ≠ 7), rkd_congr e2 (fun v hv => du_ne _ _ (by omega))]
    exact k r hr
end RD
-- the bounds but for the counts
def UG (d : Dst) (u : Nat) : Prop := d (82 + u) ≤ 2099 ∧ d (94 + u) ≤ 60 ∧ d (106 + u) ≤ 60 ∧ d (118 + u) ≤ 24 ∧ d (130 + u) ≤ 24 ∧ d (142 + u) ≤ 500 ∧ d (154 + u) ≤ d (142 + u) ∧ d (166 + u) ≤ 20 ∧ d (178 + u) ≤ 24 ∧ d (202 + u) ≤ 1
def Geo (d : Dst) : Prop := Topo d ∧ d 1 ≤ 10 ∧ d 2 ≤ 12 ∧ d 3 ≤ 2 ∧ d 4 ≤ 100 ∧ (∀ h, h < 24 → d (12 + h) ≤ 200) ∧ (∀ i, i < d 1 → 1 ≤ d (50 + i) ∧ d (50 + i) ≤ 200) ∧ (∀ u, u < d 2 → UG d u) ∧ Rk d
def Cnt (T : Nat) (d : Dst) : Prop := d 0 ≤ T ∧ T ≤ 30000 ∧ (∀ i, i < 7 → d (5 + i) ≤ 7000 * T) ∧ ∀ u, u < d 2 → d (190 + u) ≤ 100 * T
theorem Inv.geo {T : Nat} {d : Dst} (h : Inv T d) : Geo d := by
  obtain ⟨hT, hN, hn, h3, h4, h0, hTT, hA, hS, hG, hU, hR⟩ := h
  refine ⟨hT, hN, hn, h3, h4, hS, hG, fun u hu => ?_, hR⟩
  obtain ⟨b1, b2, b3, b4, b5, b6, b7, b8, b9, b10, b11⟩ := hU u hu
  exact ⟨b1, b2, b3, b4, b5, b6, b7, b8, b9, b11⟩
theorem Inv.cnt {T : Nat} {d : Dst} (h : Inv T d) : Cnt T d := by
  obtain ⟨hT, hN, hn, h3, h4, h0, hTT, hA, hS, hG, hU, hR⟩ := h
  exact ⟨h0, hTT, hA, fun u hu => (hU u hu).2.2.2.2.2.2.2.2.2.1⟩
theorem Inv.mk {T : Nat} {d : Dst} (g : Geo d) (c : Cnt T d) : Inv T d := by
  obtain ⟨hT, hN, hn, h3, h4, hS, hG, hU, hR⟩ := g
  obtain ⟨h0, hTT, hA, hM⟩ := c
  refine ⟨hT, hN, hn, h3, h4, h0, hTT, hA, hS, hG, fun u hu => ?_, hR⟩
  obtain ⟨b1, b2, b3, b4, b5, b6, b7, b8, b9, b11⟩ := hU u hu
  exact ⟨b1, b2, b3, b4, b5, b6, b7, b8, b9, hM u hu, b11⟩
theorem Cnt.up {T T' : Nat} {d : Dst} (h : Cnt T d) (h1 : T ≤ T') (h2 : T' ≤ 30000) : Cnt T' d := by
  obtain ⟨h0, hTT, hA, hM⟩ := h
  exact ⟨by omega, h2, fun i hi => by have := hA i hi; omega, fun u hu => by have := hM u hu; omega⟩
theorem Inv.up {T T' : Nat} {d : Dst} (h : Inv T d) (h1 : T ≤ T') (h2 : T' ≤ 30000) : Inv T' d := Inv.mk h.geo (h.cnt.up h1 h2)
/-- bounds that go over: the tree, the years, the numbers of ditches and users are the same -/
theorem Geo.of {d d' : Dst} (h : Geo d) (e1 : d' 1 = d 1) (e2 : d' 2 = d 2) (e3 : d' 3 ≤ 2) (e4 : d' 4 ≤ 100) (ep : ∀ i, i < d 1 → d' (40 + i) = d (40 + i)) (eg : ∀ i, i < d 1 → 1 ≤ d' (50 + i) ∧ d' (50 + i) ≤ 200) (el : ∀ i, i < d 1 → d' (60 + i) ≤ 50) (ea : ∀ u, u < d 2 → d' (70 + u) = d (70 + u)) (ey : ∀ u, u < d 2 → d' (82 + u) = d (82 + u)) (es : ∀ h, h < 24 → d' (12 + h) ≤ 200) (eu : ∀ u, u < d 2 → UG d' u) : Geo d' := by
  obtain ⟨⟨t1, t2, t3, t4, t5⟩, hN, hn, h3, h4, hS, hG, hU, hR⟩ := h
  refine ⟨⟨by omega, (ep 0 t1).trans t2, fun c h0 hc => ?_, fun i hi => el i (by omega), fun u hu => ?_⟩, by omega, by omega, e3, e4, es, fun i hi => eg i (by omega), fun u hu => eu u (by omega), hR.congr e2 ey⟩
  · rw [e1] at hc
    rw [ep c hc]
    exact t3 c h0 hc
  · rw [e2] at hu
    rw [ea u hu, e1]
    exact t5 u hu
section GD
variable {d : Dst}
theorem Geo.nd (h : Geo d) : d 1 ≤ 10 := h.2.1
theorem Geo.nu (h : Geo d) : d 2 ≤ 12 := h.2.2.1
theorem Geo.ug (h : Geo d) {u : Nat} (hu : u < d 2) : UG d u := h.2.2.2.2.2.2.2.1 u hu
theorem Geo.sp (h : Geo d) {i : Nat} (hi : i < 24) : d (12 + i) ≤ 200 := h.2.2.2.2.2.1 i hi
theorem Geo.gt (h : Geo d) {i : Nat} (hi : i < d 1) : 1 ≤ d (50 + i) ∧ d (50 + i) ≤ 200 := h.2.2.2.2.2.2.1 i hi
theorem Geo.ls (h : Geo d) {i : Nat} (hi : i < d 1) : d (60 + i) ≤ 50 := h.1.2.2.2.1 i hi

theorem Geo.s94 (h : Geo d) {u x : Nat} (hu : u < d 2) (hx : x ≤ 60) : Geo (du d (94 + u) x) := by
  have h1 := h.nd
  have h2 := h.nu
  refine h.of (du_ne _ _ (by omega)) (du_ne _ _ (by omega)) (by rw [du_ne _ _ (by omega)]; exact h.2.2.2.1) (by rw [du_ne _ _ (by omega)]; exact h.2.2.2.2.1) (fun i hi => du_ne _ _ (by omega)) (fun i hi => by rw [du_ne _ _ (by omega)]; exact h.gt hi) (fun i hi => by rw [du_ne _ _ (by omega)]; exact h.ls hi) (fun v hv => du_ne _ _ (by omega)) (fun v hv => du_ne _ _ (by omega)) (fun i hi => by rw [du_ne _ _ (by omega)]; exact h.sp hi) (?_)
  exact fun v hv => by
    have g := h.ug hv
    unfold UG at g ⊢
    by_cases q : v = u
    · subst q
      simp (discharger := omega) only [du_ne, du_self]
      omega
    · simp (discharger := omega) only [du_ne]
      omega
theorem Geo.s106 (h : Geo d) {u x : Nat} (hu : u < d 2) (hx : x ≤ 60) : Geo (du d (106 + u) x) := by
  have h1 := h.nd
  have h2 := h.nu
  refine h.of (du_ne _ _ (by omega)) (du_ne _ _ (by omega)) (by rw [du_ne _ _ (by omega)]; exact h.2.2.2.1) (by rw [du_ne _ _ (by omega)]; exact h.2.2.2.2.1) (fun i hi => du_ne _ _ (by omega)) (fun i hi => by rw [du_ne _ _ (by omega)]; exact h.gt hi) (fun i hi => by rw [du_ne _ _ (by omega)]; exact h.ls hi) (fun v hv => du_ne _ _ (by omega)) (fun v hv => du_ne _ _ (by omega)) (fun i hi => by rw [du_ne _ _ (by omega)]; exact h.sp hi) (?_)
  exact fun v hv => by
    have g := h.ug hv
    unfold UG at g ⊢
    by_cases q : v = u
    · subst q
      simp (discharger := omega) only [du_ne, du_self]
      omega
    · simp (discharger := omega) only [du_ne]
      omega
theorem Geo.s118 (h : Geo d) {u x : Nat} (hu : u < d 2) (hx : x ≤ 24) : Geo (du d (118 + u) x) := by
  have h1 := h.nd
  have h2 := h.nu
  refine h.of (du_ne _ _ (by omega)) (du_ne _ _ (by omega)) (by rw [du_ne _ _ (by omega)]; exact h.2.2.2.1) (by rw [du_ne _ _ (by omega)]; exact h.2.2.2.2.1) (fun i hi => du_ne _ _ (by omega)) (fun i hi => by rw [du_ne _ _ (by omega)]; exact h.gt hi) (fun i hi => by rw [du_ne _ _ (by omega)]; exact h.ls hi) (fun v hv => du_ne _ _ (by omega)) (fun v hv => du_ne _ _ (by omega)) (fun i hi => by rw [du_ne _ _ (by omega)]; exact h.sp hi) (?_)
  exact fun v hv => by
    have g := h.ug hv
    unfold UG at g ⊢
    by_cases q : v = u
    · subst q
      simp (discharger := omega) only [du_ne, du_self]
      omega
    · simp (discharger := omega) only [du_ne]
      omega
theorem Geo.s130 (h : Geo d) {u x : Nat} (hu : u < d 2) (hx : x ≤ 24) : Geo (du d (130 + u) x) := by
  have h1 := h.nd
  have h2 := h.nu
  refine h.of (du_ne _ _ (by omega)) (du_ne _ _ (by omega)) (by rw [du_ne _ _ (by omega)]; exact h.2.2.2.1) (by rw [du_ne _ _ (by omega)]; exact h.2.2.2.2.1) (fun i hi => du_ne _ _ (by omega)) (fun i hi => by rw [du_ne _ _ (by omega)]; exact h.gt hi) (fun i hi => by rw [du_ne _ _ (by omega)]; exact h.ls hi) (fun v hv => du_ne _ _ (by omega)) (fun v hv => du_ne _ _ (by omega)) (fun i hi => by rw [du_ne _ _ (by omega)]; exact h.sp hi) (?_)
  exact fun v hv => by
    have g := h.ug hv
    unfold UG at g ⊢
    by_cases q : v = u
    · subst q
      simp (discharger := omega) only [du_ne, du_self]
      omega
    · simp (discharger := omega) only [du_ne]
      omega
theorem Geo.s154 (h : Geo d) {u x : Nat} (hu : u < d 2) (hx : x ≤ d (142 + u)) : Geo (du d (154 + u) x) := by
  have h1 := h.nd
  have h2 := h.nu
  refine h.of (du_ne _ _ (by omega)) (du_ne _ _ (by omega)) (by rw [du_ne _ _ (by omega)]; exact h.2.2.2.1) (by rw [du_ne _ _ (by omega)]; exact h.2.2.2.2.1) (fun i hi => du_ne _ _ (by omega)) (fun i hi => by rw [du_ne _ _ (by omega)]; exact h.gt hi) (fun i hi => by rw [du_ne _ _ (by omega)]; exact h.ls hi) (fun v hv => du_ne _ _ (by omega)) (fun v hv => du_ne _ _ (by omega)) (fun i hi => by rw [du_ne _ _ (by omega)]; exact h.sp hi) (?_)
  exact fun v hv => by
    have g := h.ug hv
    unfold UG at g ⊢
    by_cases q : v = u
    · subst q
      simp (discharger := omega) only [du_ne, du_self]
      omega
    · simp (discharger := omega) only [du_ne]
      omega
theorem Geo.s166 (h : Geo d) {u x : Nat} (hu : u < d 2) (hx : x ≤ 20) : Geo (du d (166 + u) x) := by
  have h1 := h.nd
  have h2 := h.nu
  refine h.of (du_ne _ _ (by omega)) (du_ne _ _ (by omega)) (by rw [du_ne _ _ (by omega)]; exact h.2.2.2.1) (by rw [du_ne _ _ (by omega)]; exact h.2.2.2.2.1) (fun i hi => du_ne _ _ (by omega)) (fun i hi => by rw [du_ne _ _ (by omega)]; exact h.gt hi) (fun i hi => by rw [du_ne _ _ (by omega)]; exact h.ls hi) (fun v hv => du_ne _ _ (by omega)) (fun v hv => du_ne _ _ (by omega)) (fun i hi => by rw [du_ne _ _ (by omega)]; exact h.sp hi) (?_)
  exact fun v hv => by
    have g := h.ug hv
    unfold UG at g ⊢
    by_cases q : v = u
    · subst q
      simp (discharger := omega) only [du_ne, du_self]
      omega
    · simp (discharger := omega) only [du_ne]
      omega
theorem Geo.s178 (h : Geo d) {u x : Nat} (hu : u < d 2) (hx : x ≤ 24) : Geo (du d (178 + u) x) := by
  have h1 := h.nd
  have h2 := h.nu
  refine h.of (du_ne _ _ (by omega)) (du_ne _ _ (by omega)) (by rw [du_ne _ _ (by omega)]; exact h.2.2.2.1) (by rw [du_ne _ _ (by omega)]; exact h.2.2.2.2.1) (fun i hi => du_ne _ _ (by omega)) (fun i hi => by rw [du_ne _ _ (by omega)]; exact h.gt hi) (fun i hi => by rw [du_ne _ _ (by omega)]; exact h.ls hi) (fun v hv => du_ne _ _ (by omega)) (fun v hv => du_ne _ _ (by omega)) (fun i hi => by rw [du_ne _ _ (by omega)]; exact h.sp hi) (?_)
  exact fun v hv => by
    have g := h.ug hv
    unfold UG at g ⊢
    by_cases q : v = u
    · subst q
      simp (discharger := omega) only [du_ne, du_self]
      omega
    · simp (discharger := omega) only [du_ne]
      omega
theorem Geo.s202 (h : Geo d) {u x : Nat} (hu : u < d 2) (hx : x ≤ 1) : Geo (du d (202 + u) x) := by
  have h1 := h.nd
  have h2 := h.nu
  refine h.of (du_ne _ _ (by omega)) (du_ne _ _ (by omega)) (by rw [du_ne _ _ (by omega)]; exact h.2.2.2.1) (by rw [du_ne _ _ (by omega)]; exact h.2.2.2.2.1) (fun i hi => du_ne _ _ (by omega)) (fun i hi => by rw [du_ne _ _ (by omega)]; exact h.gt hi) (fun i hi => by rw [du_ne _ _ (by omega)]; exact h.ls hi) (fun v hv => du_ne _ _ (by omega)) (fun v hv => du_ne _ _ (by omega)) (fun i hi => by rw [du_ne _ _ (by omega)]; exact h.sp hi) (?_)
  exact fun v hv => by
    have g := h.ug hv
    unfold UG at g ⊢
    by_cases q : v = u
    · subst q
      simp (discharger := omega) only [du_ne, du_self]
      omega
    · simp (discharger := omega) only [du_ne]
      omega
theorem Geo.s142 (h : Geo d) {u x : Nat} (hu : u < d 2) (hx : x ≤ 500) (hc : d (154 + u) ≤ x) : Geo (du d (142 + u) x) := by
  have h1 := h.nd
  have h2 := h.nu
  refine h.of (du_ne _ _ (by omega)) (du_ne _ _ (by omega)) (by rw [du_ne _ _ (by omega)]; exact h.2.2.2.1) (by rw [du_ne _ _ (by omega)]; exact h.2.2.2.2.1) (fun i hi => du_ne _ _ (by omega)) (fun i hi => by rw [du_ne _ _ (by omega)]; exact h.gt hi) (fun i hi => by rw [du_ne _ _ (by omega)]; exact h.ls hi) (fun v hv => du_ne _ _ (by omega)) (fun v hv => du_ne _ _ (by omega)) (fun i hi => by rw [du_ne _ _ (by omega)]; exact h.sp hi) (?_)
  exact fun v hv => by
    have g := h.ug hv
    unfold UG at g ⊢
    by_cases q : v = u
    · subst q
      simp (discharger := omega) only [du_ne, du_self]
      omega
    · simp (discharger := omega) only [du_ne]
      omega
theorem Geo.sfree (h : Geo d) {k x : Nat} (hk : k = 0 ∨ 5 ≤ k ∧ k < 12 ∨ 190 ≤ k ∧ k < 202) : Geo (du d k x) := by
  have h1 := h.nd
  have h2 := h.nu
  refine h.of (du_ne _ _ (by omega)) (du_ne _ _ (by omega)) (by rw [du_ne _ _ (by omega)]; exact h.2.2.2.1) (by rw [du_ne _ _ (by omega)]; exact h.2.2.2.2.1) (fun i hi => du_ne _ _ (by omega)) (fun i hi => by rw [du_ne _ _ (by omega)]; exact h.gt hi) (fun i hi => by rw [du_ne _ _ (by omega)]; exact h.ls hi) (fun v hv => du_ne _ _ (by omega)) (fun v hv => du_ne _ _ (by omega)) (fun i hi => by rw [du_ne _ _ (by omega)]; exact h.sp hi) (?_)
  exact fun v hv => by
    have g := h.ug hv
    unfold UG at g ⊢
    simp (discharger := omega) only [du_ne]
    exact g
theorem Geo.s12 (h : Geo d) {i x : Nat} (hi0 : i < 24) (hx : x ≤ 200) : Geo (du d (12 + i) x) := by
  have h1 := h.nd
  have h2 := h.nu
  refine h.of (du_ne _ _ (by omega)) (du_ne _ _ (by omega)) (by rw [du_ne _ _ (by omega)]; exact h.2.2.2.1) (by rw [du_ne _ _ (by omega)]; exact h.2.2.2.2.1) (fun i hi => du_ne _ _ (by omega)) (fun i hi => by rw [du_ne _ _ (by omega)]; exact h.gt hi) (fun i hi => by rw [du_ne _ _ (by omega)]; exact h.ls hi) (fun v hv => du_ne _ _ (by omega)) (fun v hv => du_ne _ _ (by omega)) (fun q hq => by
    by_cases z : q = i
    · rw [z, du_self]; exact hx
    · rw [du_ne _ _ (by omega)]; exact h.sp hq) (?_)
  exact fun v hv => by
    have g := h.ug hv
    unfold UG at g ⊢
    simp (discharger := omega) only [du_ne]
    exact g
theorem Geo.s50 (h : Geo d) {i x : Nat} (hi0 : i < d 1) (h1x : 1 ≤ x) (hx : x ≤ 200) : Geo (du d (50 + i) x) := by
  have h1 := h.nd
  have h2 := h.nu
  refine h.of (du_ne _ _ (by omega)) (du_ne _ _ (by omega)) (by rw [du_ne _ _ (by omega)]; exact h.2.2.2.1) (by rw [du_ne _ _ (by omega)]; exact h.2.2.2.2.1) (fun i hi => du_ne _ _ (by omega)) (fun q hq => by
    by_cases z : q = i
    · rw [z, du_self]; exact ⟨h1x, hx⟩
    · rw [du_ne _ _ (by omega)]; exact h.gt hq) (fun i hi => by rw [du_ne _ _ (by omega)]; exact h.ls hi) (fun v hv => du_ne _ _ (by omega)) (fun v hv => du_ne _ _ (by omega)) (fun i hi => by rw [du_ne _ _ (by omega)]; exact h.sp hi) (?_)
  exact fun v hv => by
    have g := h.ug hv
    unfold UG at g ⊢
    simp (discharger := omega) only [du_ne]
    exact g
theorem Geo.s60 (h : Geo d) {i x : Nat} (hi0 : i < d 1) (hx : x ≤ 50) : Geo (du d (60 + i) x) := by
  have h1 := h.nd
  have h2 := h.nu
  refine h.of (du_ne _ _ (by omega)) (du_ne _ _ (by omega)) (by rw [du_ne _ _ (by omega)]; exact h.2.2.2.1) (by rw [du_ne _ _ (by omega)]; exact h.2.2.2.2.1) (fun i hi => du_ne _ _ (by omega)) (fun i hi => by rw [du_ne _ _ (by omega)]; exact h.gt hi) (fun q hq => by
    by_cases z : q = i
    · rw [z, du_self]; exact hx
    · rw [du_ne _ _ (by omega)]; exact h.ls hq) (fun v hv => du_ne _ _ (by omega)) (fun v hv => du_ne _ _ (by omega)) (fun i hi => by rw [du_ne _ _ (by omega)]; exact h.sp hi) (?_)
  exact fun v hv => by
    have g := h.ug hv
    unfold UG at g ⊢
    simp (discharger := omega) only [du_ne]
    exact g
theorem Geo.s3 (h : Geo d) {x : Nat} (hx : x ≤ 2) : Geo (du d 3 x) := by
  have h1 := h.nd
  have h2 := h.nu
  refine h.of (du_ne _ _ (by omega)) (du_ne _ _ (by omega)) (by rw [du_self]; exact hx) (by rw [du_ne _ _ (by omega)]; exact h.2.2.2.2.1) (fun i hi => du_ne _ _ (by omega)) (fun i hi => by rw [du_ne _ _ (by omega)]; exact h.gt hi) (fun i hi => by rw [du_ne _ _ (by omega)]; exact h.ls hi) (fun v hv => du_ne _ _ (by omega)) (fun v hv => du_ne _ _ (by omega)) (fun i hi => by rw [du_ne _ _ (by omega)]; exact h.sp hi) (?_)
  exact fun v hv => by
    have g := h.ug hv
    unfold UG at g ⊢
    simp (discharger := omega) only [du_ne]
    exact g
theorem Geo.s4 (h : Geo d) {x : Nat} (hx : x ≤ 100) : Geo (du d 4 x) := by
  have h1 := h.nd
  have h2 := h.nu
  refine h.of (du_ne _ _ (by omega)) (du_ne _ _ (by omega)) (by rw [du_ne _ _ (by omega)]; exact h.2.2.2.1) (by rw [du_self]; exact hx) (fun i hi => du_ne _ _ (by omega)) (fun i hi => by rw [du_ne _ _ (by omega)]; exact h.gt hi) (fun i hi => by rw [du_ne _ _ (by omega)]; exact h.ls hi) (fun v hv => du_ne _ _ (by omega)) (fun v hv => du_ne _ _ (by omega)) (fun i hi => by rw [du_ne _ _ (by omega)]; exact h.sp hi) (?_)
  exact fun v hv => by
    have g := h.ug hv
    unfold UG at g ⊢
    simp (discharger := omega) only [du_ne]
    exact g
theorem Cnt.of {T : Nat} {d' : Dst} (h : Cnt T d) (h0 : d' 0 = d 0) (h2 : d' 2 = d 2) (ha : ∀ i, i < 7 → d' (5 + i) = d (5 + i)) (hm : ∀ u, u < d 2 → d' (190 + u) = d (190 + u)) : Cnt T d' := by
  obtain ⟨c0, cT, cA, cM⟩ := h
  exact ⟨by omega, cT, fun i hi => by rw [ha i hi]; exact cA i hi, fun u hu => by rw [h2] at hu; rw [hm u hu]; exact cM u hu⟩
theorem Cnt.du {T : Nat} (h : Cnt T d) (h2 : d 2 ≤ 12) {k x : Nat} (hk : k ≠ 0 ∧ k ≠ 2 ∧ (k < 5 ∨ 12 ≤ k) ∧ (k < 190 ∨ 202 ≤ k)) : Cnt T (du d k x) := h.of (du_ne _ _ (by omega)) (du_ne _ _ (by omega)) (fun i hi => du_ne _ _ (by omega)) (fun u hu => du_ne _ _ (by omega))
end GD
