/-! PART 11: the distribution of one hour (pure): ranks, shares, serving; bounds -/
abbrev older (d : Dst) (a b : Nat) : Prop := d (82 + a) < d (82 + b) ∨ d (82 + a) = d (82 + b) ∧ a < b
theorem older_irr {d : Dst} (a : Nat) : ¬ older d a a := by
  intro h
  rcases h with h | h <;> omega
theorem older_trans {d : Dst} {a b c : Nat} (h1 : older d a b) (h2 : older d b c) : older d a c := by
  rcases h1 with h1 | h1 <;> rcases h2 with h2 | h2 <;> first | (left; omega) | (right; omega)
theorem older_tot {d : Dst} {a b : Nat} (h : a ≠ b) : older d a b ∨ older d b a := by
  rcases Nat.lt_trichotomy (d (82 + a)) (d (82 + b)) with q | q | q
  · exact Or.inl (Or.inl q)
  · rcases Nat.lt_trichotomy a b with z | z | z
    · exact Or.inl (Or.inr ⟨q, z⟩)
    · exact (h z).elim
    · exact Or.inr (Or.inr ⟨q.symm, z⟩)
  · exact Or.inr (Or.inl q)
/-- how many of the first m are older than u -/
def cnt (d : Dst) (u : Nat) : Nat → Nat
  | 0 => 0
  | m + 1 => cnt d u m + if older d m u then 1 else 0
theorem cnt_le {d : Dst} (u : Nat) : ∀ m, cnt d u m ≤ m
  | 0 => Nat.le_refl _
  | m + 1 => by
    have := cnt_le (d := d) u m
    simp only [cnt]
    split <;> omega
theorem cnt_mono {d : Dst} {u v : Nat} (h : older d u v) : ∀ m, cnt d u m ≤ cnt d v m
  | 0 => Nat.le_refl _
  | m + 1 => by
    have := cnt_mono h m
    simp only [cnt]
    by_cases h2 : older d m u
    · rw [if_pos h2, if_pos (older_trans h2 h)]
      omega
    · rw [if_neg h2]
      omega
theorem cnt_lt {d : Dst} {u v : Nat} (h : older d u v) : ∀ {m : Nat}, u < m → cnt d u m < cnt d v m
  | 0, hu => absurd hu (Nat.not_lt_zero _)
  | m + 1, hu => by
    simp only [cnt]
    by_cases hm : u = m
    · subst hm
      have := cnt_mono h u
      rw [if_neg (older_irr u), if_pos h]
      omega
    · have := cnt_lt h (m := m) (by omega)
      by_cases h2 : older d m u
      · rw [if_pos h2, if_pos (older_trans h2 h)]
        omega
      · rw [if_neg h2]
        omega
theorem cnt_inj {d : Dst} {u v m : Nat} (hu : u < m) (hv : v < m) (h : cnt d u m = cnt d v m) : u = v := by
  by_cases hq : u = v
  · exact hq
  · rcases older_tot (d := d) hq with z | z
    · have := cnt_lt z hu
      omega
    · have := cnt_lt z hv
      omega
def rfd (d : Dst) (r : Nat) : Nat → Nat → Nat
  | 0, _ => 99
  | k + 1, u => if cnt d u (d 2) = r then u else rfd d r k (u + 1)
/-- the user of a rank (99: there is none) -/
def rkd (d : Dst) (r : Nat) : Nat := rfd d r (d 2) 0
theorem rfd_of {d : Dst} {r u : Nat} (hu : u < d 2) (hc : cnt d u (d 2) = r) : ∀ (k v : Nat), v ≤ u → u < v + k → rfd d r k v = u
  | 0, v, h1, h2 => by omega
  | k + 1, v, h1, h2 => by
    simp only [rfd]
    by_cases hv : cnt d v (d 2) = r
    · rw [if_pos hv]
      exact cnt_inj (d := d) (m := d 2) (by omega) hu (by omega)
    · rw [if_neg hv]
      refine rfd_of hu hc k (v + 1) ?_ (by omega)
      rcases Nat.lt_or_ge v u with q | q
      · exact q
      · have : v = u := by omega
        subst this
        exact (hv hc).elim
theorem rkd_of {d : Dst} {r u : Nat} (hu : u < d 2) (hc : cnt d u (d 2) = r) : rkd d r = u := rfd_of hu hc _ 0 (Nat.zero_le _) (by omega)
/-- every rank has its user -/
def Rk (d : Dst) : Prop := ∀ r, r < d 2 → rkd d r < d 2 ∧ cnt d (rkd d r) (d 2) = r
-- shares
def shr (d : Dst) (k u : Nat) : Nat := ask d u * k / 100
noncomputable def kfd (d : Dst) : Nat → Nat
  | 0 => 0
  | k + 1 => @ite Nat (Poss d (shr d (k + 1))) (Classical.propDecidable _) (k + 1) (kfd d k)
noncomputable def kmx (d : Dst) : Nat := kfd d 100
theorem kfd_le (d : Dst) : ∀ k, kfd d k ≤ k
  | 0 => Nat.le_refl _
  | k + 1 => by
    have := kfd_le d k
    simp only [kfd]
    split <;> omega
theorem FF_zero {d : Dst} (hT : Topo d) : ∀ (s i : Nat), i < d 1 → ffu d (fun _ => 0) s i = 0
  | 0, _, _ => rfl
  | s + 1, i, hi => by
    have h1 : pu d (fun _ => 0) i (d 2) = 0 := by
      have : ∀ m, pu d (fun _ => 0) i m = 0 := by
        intro m
        induction m with
        | zero => rfl
        | succ m ih => simp only [pu, ih]; split <;> rfl
      exact this _
    have h2 : chs d (ffu d (fun _ => 0) s) i (d 1) ≤ 0 := by
      refine Nat.le_trans (chs_mono (g := fun _ => 0) (fun c hc => Nat.le_of_eq (FF_zero hT s c hc))) ?_
      have : ∀ m, chs d (fun _ => 0) i m = 0 := by
        intro m
        induction m with
        | zero => rfl
        | succ m ih => simp only [chs, ih]; split <;> rfl
      rw [this]
      exact Nat.le_refl _
    have h3 := (infl_le (hT.2.2.2.1 i hi) 0 0).mpr (Nat.zero_le _)
    show infl _ _ = 0
    rw [h1, Nat.le_zero.mp h2]
    exact Nat.le_zero.mp h3
theorem Poss_zero {d : Dst} (hT : Topo d) : Poss d (fun _ => 0) := ⟨fun i hi => by unfold FF; rw [FF_zero hT _ i hi]; exact Nat.zero_le _, by unfold FF; rw [FF_zero hT _ 0 hT.1]; exact Nat.zero_le _⟩
theorem shr_mono {d : Dst} {k q : Nat} (h : k ≤ q) (u : Nat) : shr d k u ≤ shr d q u := Nat.div_le_div_right (Nat.mul_le_mul_left _ h)
theorem shr_zero {d : Dst} (u : Nat) : shr d 0 u = 0 := by simp [shr]
theorem shr_le {d : Dst} {k : Nat} (h : k ≤ 100) (u : Nat) : shr d k u ≤ ask d u := by
  unfold shr
  have : ask d u * k ≤ ask d u * 100 := Nat.mul_le_mul_left _ h
  omega
theorem Poss_shr_zero {d : Dst} (hT : Topo d) : Poss d (shr d 0) := Poss.mono hT (fun u _ => Nat.le_of_eq (shr_zero u)) (Poss_zero hT)
theorem kfd_poss {d : Dst} (hT : Topo d) : ∀ k, Poss d (shr d (kfd d k))
  | 0 => Poss_shr_zero hT
  | k + 1 => by
    simp only [kfd]
    split
    · assumption
    · exact kfd_poss hT k
theorem kfd_max {d : Dst} : ∀ {k q : Nat}, q ≤ k → kfd d k < q → ¬ Poss d (shr d q)
  | 0, q, h1, h2 => by omega
  | k + 1, q, h1, h2 => by
    by_cases hp : Poss d (shr d (k + 1))
    · have : kfd d (k + 1) = k + 1 := if_pos hp
      omega
    · have e : kfd d (k + 1) = kfd d k := if_neg hp
      by_cases hq : q = k + 1
      · rw [hq]; exact hp
      · exact kfd_max (k := k) (by omega) (by omega)
theorem kmx_of {d : Dst} {k : Nat} (hT : Topo d) (hk : k ≤ 100) (hp : Poss d (shr d k)) (hm : ∀ q, q ≤ 100 → k < q → ¬ Poss d (shr d q)) : kmx d = k := by
  have h1 := kfd_le d 100
  have h2 := kfd_poss hT 100
  unfold kmx
  rcases Nat.lt_trichotomy (kfd d 100) k with q | q | q
  · exact (kfd_max hk q hp).elim
  · exact q
  · exact (hm _ h1 q h2).elim
theorem kmx_le (d : Dst) : kmx d ≤ 100 := kfd_le d 100
theorem kmx_poss {d : Dst} (hT : Topo d) : Poss d (shr d (kmx d)) := kfd_poss hT 100
theorem kmx_max {d : Dst} {q : Nat} (hq : q ≤ 100) (h : kmx d < q) : ¬ Poss d (shr d q) := kfd_max hq h
/-- a user is served -/
def srv (d : Dst) (a : Nat → Nat) (u : Nat) : Nat → Nat := au a u (max (a u) (min (ask d u) (mx d a u)))
noncomputable def am0 (d : Dst) : Nat → Nat := if d 3 = 2 then shr d (kmx d) else fun _ => 0
noncomputable def am1 (d : Dst) : Nat → Nat := if tnow d < d 2 then srv d (am0 d) (tnow d) else am0 d
noncomputable def ams (d : Dst) : Nat → (Nat → Nat)
  | 0 => am1 d
  | r + 1 => if rkd d r = tnow d then ams d r else srv d (ams d r) (rkd d r)
noncomputable def amt (d : Dst) : Nat → Nat := ams d (d 2)
/-- amounts: possible, and none more than is asked for -/
def Ok (d : Dst) (a : Nat → Nat) : Prop := Poss d a ∧ ∀ u, u < d 2 → a u ≤ ask d u
theorem srv_ok {d : Dst} (hT : Topo d) {a : Nat → Nat} (h : Ok d a) {u : Nat} (hu : u < d 2) : Ok d (srv d a u) := by
  have h1 := mx_ge hT h.1 hu
  have h2 := h.2 u hu
  refine ⟨(Poss_au hT h.1 hu).mpr (by omega), fun v hv => ?_⟩
  unfold srv
  by_cases hq : v = u
  · subst hq
    rw [au_self]
    omega
  · rw [au_ne _ _ hq]
    exact h.2 v hv
theorem am0_ok {d : Dst} (hT : Topo d) : Ok d (am0 d) := by
  unfold am0
  split
  · exact ⟨kmx_poss hT, fun u _ => shr_le (kmx_le d) u⟩
  · exact ⟨Poss_zero hT, fun u _ => Nat.zero_le _⟩
theorem am1_ok {d : Dst} (hT : Topo d) : Ok d (am1 d) := by
  unfold am1
  split
  · exact srv_ok hT (am0_ok hT) (by assumption)
  · exact am0_ok hT
theorem ams_ok {d : Dst} (hT : Topo d) (hR : Rk d) : ∀ {r : Nat}, r ≤ d 2 → Ok d (ams d r)
  | 0, _ => am1_ok hT
  | r + 1, h => by
    simp only [ams]
    split
    · exact ams_ok hT hR (by omega)
    · exact srv_ok hT (ams_ok hT hR (by omega)) (hR r (by omega)).1
theorem amt_ok {d : Dst} (hT : Topo d) (hR : Rk d) : Ok d (amt d) := ams_ok hT hR (Nat.le_refl _)
-- bounds
def sm (f : Nat → Nat) : Nat → Nat
  | 0 => 0
  | k + 1 => sm f k + f k
theorem sm_mono {f g : Nat → Nat} : ∀ {k : Nat}, (∀ i, i < k → f i ≤ g i) → sm f k ≤ sm g k
  | 0, _ => Nat.le_refl _
  | k + 1, h => by
    have := sm_mono (k := k) (fun i hi => h i (by omega))
    have := h k (by omega)
    simp only [sm]
    omega
theorem sm_add (f g : Nat → Nat) : ∀ k, sm (fun i => f i + g i) k = sm f k + sm g k
  | 0 => rfl
  | k + 1 => by
    simp only [sm, sm_add f g k]
    omega
theorem sm_one (p v : Nat) : ∀ k, sm (fun i => if p = i then v else 0) k ≤ v
  | 0 => Nat.zero_le _
  | k + 1 => by
    have h1 := sm_one p v k
    simp only [sm]
    by_cases h : p = k
    · have : ∀ j, j ≤ k → sm (fun i => if p = i then v else 0) j = 0 := by
        intro j
        induction j with
        | zero => intro _; rfl
        | succ j ih => intro hj; simp only [sm, ih (by omega)]; rw [if_neg (by omega)]
      rw [this k (Nat.le_refl _), if_pos h]
      omega
    · rw [if_neg h]
      omega
theorem sm_pu (d : Dst) (a : Nat → Nat) (k : Nat) : ∀ m, sm (fun i => pu d a i m) k ≤ sm a m
  | 0 => by
    have : ∀ k, sm (fun i => pu d a i 0) k = 0 := by
      intro k
      induction k with
      | zero => rfl
      | succ k ih => simp only [sm, ih]; rfl
    rw [this]
    exact Nat.zero_le _
  | m + 1 => by
    have h1 := sm_pu d a k m
    have h2 := sm_one (d (70 + m)) (a m) k
    have h3 := sm_add (fun i => pu d a i m) (fun i => if d (70 + m) = i then a m else 0) k
    show sm (fun i => pu d a i m + if d (70 + m) = i then a m else 0) k ≤ sm a m + a m
    rw [h3]
    omega
theorem sm_const (c : Nat) : ∀ k, sm (fun _ => c) k = k * c
  | 0 => by simp [sm]
  | k + 1 => by simp only [sm, sm_const c k, Nat.succ_mul]
/-- what has been passed to ditch i when the ditches from k on are done -/
def gk (d : Dst) (a : Nat → Nat) (k i : Nat) : Nat := FP d a i - chs d (FF d a) i k
theorem chs_le {d : Dst} (f : Nat → Nat) (i : Nat) {k n : Nat} (h : k ≤ n) : chs d f i k ≤ chs d f i n := by
  induction n with
  | zero => rw [Nat.le_zero.mp h]; exact Nat.le_refl _
  | succ n ih =>
    by_cases hk : k = n + 1
    · rw [hk]; exact Nat.le_refl _
    · exact Nat.le_trans (ih (by omega)) (Nat.le_add_right _ _)
theorem gk_add {d : Dst} (a : Nat → Nat) {k i : Nat} (h : k ≤ d 1) : gk d a k i + chs d (FF d a) i k = FP d a i := by
  have h1 := chs_le (d := d) (FF d a) i h
  unfold gk FP
  omega
theorem gk_top {d : Dst} (a : Nat → Nat) (i : Nat) : gk d a (d 1) i = pu d a i (d 2) := by
  unfold gk FP
  omega
theorem gk_own {d : Dst} (hT : Topo d) (a : Nat → Nat) {k : Nat} (h : k < d 1) : gk d a (k + 1) k = FP d a k := by
  have h1 := gk_add (d := d) a (k := k + 1) (i := k) (by omega)
  rw [chs_low hT (FF d a) (by omega) (Nat.le_refl _)] at h1
  omega
theorem gk_step {d : Dst} (a : Nat → Nat) {k i : Nat} (h : k < d 1) : gk d a k i = gk d a (k + 1) i + if 0 < k ∧ d (40 + k) = i then FF d a k else 0 := by
  have h1 := gk_add (d := d) a (k := k) (i := i) (by omega)
  have h2 := gk_add (d := d) a (k := k + 1) (i := i) (by omega)
  simp only [chs] at h2
  split at h2 <;> split <;> first | omega | (exfalso; omega)
theorem gk_zero {d : Dst} (hT : Topo d) (a : Nat → Nat) (i : Nat) : gk d a 0 i = FP d a i := by
  unfold gk
  rfl
def phi (d : Dst) (a : Nat → Nat) (k : Nat) : Nat := sm (gk d a k) k
theorem phi_step {d : Dst} (hT : Topo d) (a : Nat → Nat) {k : Nat} (h : k < d 1) : phi d a k ≤ 2 * phi d a (k + 1) ∧ FP d a k ≤ phi d a (k + 1) := by
  have e : phi d a (k + 1) = sm (gk d a (k + 1)) k + FP d a k := by
    show sm (gk d a (k + 1)) k + gk d a (k + 1) k = _
    rw [gk_own hT a h]
  have h1 : phi d a k ≤ sm (gk d a (k + 1)) k + FF d a k := by
    unfold phi
    have h2 : sm (gk d a k) k ≤ sm (fun i => gk d a (k + 1) i + if d (40 + k) = i then FF d a k else 0) k := by
      refine sm_mono (fun i hi => ?_)
      rw [gk_step a h]
      by_cases hq : d (40 + k) = i
      · rw [if_pos hq]
        split <;> omega
      · rw [if_neg hq, if_neg (fun z => hq z.2)]
        exact Nat.le_refl _
    have h3 := sm_add (gk d a (k + 1)) (fun i => if d (40 + k) = i then FF d a k else 0) k
    have h4 := sm_one (d (40 + k)) (FF d a k) k
    have h2' : sm (gk d a k) k ≤ sm (gk d a (k + 1)) k + sm (fun i => if d (40 + k) = i then FF d a k else 0) k := h3 ▸ h2
    omega
  have h5 : FF d a k ≤ 2 * FP d a k := by
    rw [FF_fix a hT h]
    exact infl_two (hT.2.2.2.1 k h) _
  constructor <;> omega
theorem phi_le {d : Dst} (hT : Topo d) (a : Nat → Nat) : ∀ (j : Nat), j ≤ d 1 → phi d a (d 1 - j) ≤ 2 ^ j * sm a (d 2)
  | 0, _ => by
    show sm (gk d a (d 1)) (d 1) ≤ _
    have h1 := sm_pu d a (d 1) (d 2)
    have h2 : sm (gk d a (d 1)) (d 1) ≤ sm (fun i => pu d a i (d 2)) (d 1) := sm_mono (fun i _ => Nat.le_of_eq (gk_top a i))
    simp only [Nat.pow_zero, Nat.one_mul]
    exact Nat.le_trans h2 h1
  | j + 1, h => by
    have h1 := phi_le hT a j (by omega)
    have h2 := (phi_step hT a (k := d 1 - (j + 1)) (by omega)).1
    rw [show d 1 - (j + 1) + 1 = d 1 - j by omega] at h2
    rw [Nat.pow_succ, Nat.mul_comm (2 ^ j) 2, Nat.mul_assoc]
    omega
/-- what flows is bounded, whatever the amounts -/
theorem FP_le {d : Dst} (hT : Topo d) (hN : d 1 ≤ 10) (hn : d 2 ≤ 12) {a : Nat → Nat} (ha : ∀ u, u < d 2 → a u ≤ 560) {k : Nat} (hk : k < d 1) : FP d a k ≤ 3440640 := by
  have h1 := (phi_step hT a hk).2
  have h2 := phi_le hT a (d 1 - (k + 1)) (by omega)
  rw [show d 1 - (d 1 - (k + 1)) = k + 1 by omega] at h2
  have h3 : sm a (d 2) ≤ sm (fun _ => 560) (d 2) := sm_mono ha
  rw [sm_const] at h3
  have h4 : (2 : Nat) ^ (d 1 - (k + 1)) ≤ 2 ^ 9 := Nat.pow_le_pow_right (by decide) (by omega)
  have h5 : 2 ^ (d 1 - (k + 1)) * sm a (d 2) ≤ 2 ^ 9 * 6720 := Nat.mul_le_mul h4 (by omega)
  omega
theorem FF_le {d : Dst} (hT : Topo d) (hN : d 1 ≤ 10) (hn : d 2 ≤ 12) {a : Nat → Nat} (ha : ∀ u, u < d 2 → a u ≤ 560) {k : Nat} (hk : k < d 1) : FF d a k ≤ 6881280 := by
  rw [FF_fix a hT hk]
  have h1 := infl_two (hT.2.2.2.1 k hk) (FP d a k)
  have h2 := FP_le hT hN hn ha hk
  omega
-- the turn
theorem tfd_lt {d : Dst} : ∀ (k u w : Nat), w + tsum d u < tsum d (u + k) → tfd d k u w < u + k ∧ tsum d (tfd d k u w) ≤ w + tsum d u ∧ w + tsum d u < tsum d (tfd d k u w + 1)
  | 0, u, w, h => by simp at h; omega
  | k + 1, u, w, h => by
    simp only [tfd]
    by_cases hq : w < d (178 + u)
    · rw [if_pos hq]
      refine ⟨by omega, by omega, ?_⟩
      simp only [tsum]
      omega
    · rw [if_neg hq]
      have e : tsum d (u + 1) = tsum d u + d (178 + u) := rfl
      have := tfd_lt (d := d) k (u + 1) (w - d (178 + u)) (by rw [show u + 1 + k = u + (k + 1) by omega]; omega)
      rw [show u + 1 + k = u + (k + 1) by omega] at this
      omega
theorem tnow_lt {d : Dst} (h : tnow d ≠ 99) : d 3 = 1 ∧ tsum d (d 2) ≠ 0 ∧ tnow d < d 2 ∧ tnow d = tfd d (d 2) 0 (d 0 % tsum d (d 2)) := by
  unfold tnow at h ⊢
  by_cases hq : d 3 = 1 ∧ tsum d (d 2) ≠ 0
  · rw [if_pos hq] at h ⊢
    have h1 := Nat.mod_lt (d 0) (Nat.pos_of_ne_zero hq.2)
    have h2 := tfd_lt (d := d) (d 2) 0 (d 0 % tsum d (d 2)) (by simp only [tsum, Nat.zero_add]; omega)
    refine ⟨hq.1, hq.2, by omega, rfl⟩
  · rw [if_neg hq] at h
    exact (h rfl).elim
theorem tsum_le {d : Dst} {m : Nat} (h : ∀ u, u < m → d (178 + u) ≤ 24) : ∀ k, k ≤ m → tsum d k ≤ 24 * k
  | 0, _ => Nat.le_refl _
  | k + 1, hk => by
    have := tsum_le h k (by omega)
    have := h k (by omega)
    simp only [tsum]
    omega
