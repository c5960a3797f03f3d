/-! PART 10: the district as numbers (d : Dst, in the reference's layout); the flow of one hour; what a user can get at most. -/
abbrev Dst : Type := Nat → Nat
def hr (d : Dst) : Nat := d 0 % 24
def sup (d : Dst) : Nat := d (12 + hr d)
def need (d : Dst) (u : Nat) : Nat := if d (118 + u) ≤ hr d ∧ hr d < d (130 + u) then d (106 + u) else 0
def could (d : Dst) (u : Nat) : Nat := need d u + (d (142 + u) - d (154 + u))
def tsum (d : Dst) : Nat → Nat
  | 0 => 0
  | n + 1 => tsum d n + d (178 + n)
def tfd (d : Dst) : Nat → Nat → Nat → Nat
  | 0, u, _ => u
  | k + 1, u, w => if w < d (178 + u) then u else tfd d k (u + 1) (w - d (178 + u))
def tnow (d : Dst) : Nat := if d 3 = 1 ∧ tsum d (d 2) ≠ 0 then tfd d (d 2) 0 (d 0 % tsum d (d 2)) else 99
def ask (d : Dst) (u : Nat) : Nat := if d (202 + u) = 0 then (if u = tnow d then could d u else min (could d u) (d (94 + u))) else 0
-- the flow
def infl (l y : Nat) : Nat := (100 * y + (100 - l) - 1) / (100 - l)
def psd (l m : Nat) : Nat := m - (m * l + 99) / 100
theorem infl_le {l : Nat} (hl : l ≤ 50) (y m : Nat) : infl l y ≤ m ↔ y ≤ psd l m := by
  unfold infl psd
  have hk : 0 < 100 - l := by omega
  have e0 := Nat.div_lt_iff_lt_mul hk (x := 100 * y + (100 - l) - 1) (y := m + 1)
  have e1 : (m + 1) * (100 - l) = m * (100 - l) + (100 - l) := Nat.succ_mul _ _
  have e2 : m * (100 - l) = m * 100 - m * l := Nat.mul_sub _ _ _
  have h1 : m * l ≤ m * 50 := Nat.mul_le_mul_left m hl
  rw [e1, e2] at e0
  omega
theorem infl_mono {l : Nat} (hl : l ≤ 50) {y z : Nat} (h : y ≤ z) : infl l y ≤ infl l z := (infl_le hl y _).mpr (Nat.le_trans h ((infl_le hl z _).mp (Nat.le_refl _)))
theorem infl_two {l : Nat} (hl : l ≤ 50) (y : Nat) : infl l y ≤ 2 * y := by
  rw [infl_le hl]
  unfold psd
  have h1 : 2 * y * l ≤ 2 * y * 50 := Nat.mul_le_mul_left (2 * y) hl
  omega
theorem infl_ge {l : Nat} (hl : l ≤ 50) (y : Nat) : y ≤ infl l y := by
  have h := (infl_le hl y _).mp (Nat.le_refl _)
  exact Nat.le_trans h (Nat.sub_le _ _)
theorem psd_le (l m : Nat) : psd l m ≤ m := Nat.sub_le _ _
def pu (d : Dst) (a : Nat → Nat) (i : Nat) : Nat → Nat
  | 0 => 0
  | m + 1 => pu d a i m + if d (70 + m) = i then a m else 0
def chs (d : Dst) (f : Nat → Nat) (i : Nat) : Nat → Nat
  | 0 => 0
  | c + 1 => chs d f i c + if 0 < c ∧ d (40 + c) = i then f c else 0
def ffu (d : Dst) (a : Nat → Nat) : Nat → Nat → Nat
  | 0, _ => 0
  | s + 1, i => infl (d (60 + i)) (pu d a i (d 2) + chs d (ffu d a s) i (d 1))
def FF (d : Dst) (a : Nat → Nat) (i : Nat) : Nat := ffu d a (d 1) i
def FP (d : Dst) (a : Nat → Nat) (i : Nat) : Nat := pu d a i (d 2) + chs d (FF d a) i (d 1)
/-- the tree of ditches, and its losses -/
def Topo (d : Dst) : Prop := 0 < d 1 ∧ d 40 = 0 ∧ (∀ c, 0 < c → c < d 1 → d (40 + c) < c) ∧ (∀ i, i < d 1 → d (60 + i) ≤ 50) ∧ ∀ u, u < d 2 → d (70 + u) < d 1
theorem chs_congr {d : Dst} {f g : Nat → Nat} {i : Nat} : ∀ {k : Nat}, (∀ c, 0 < c → c < k → d (40 + c) = i → f c = g c) → chs d f i k = chs d g i k
  | 0, _ => rfl
  | k + 1, h => by
    simp only [chs]
    rw [chs_congr (k := k) (fun c h0 hc => h c h0 (by omega))]
    by_cases hk : 0 < k ∧ d (40 + k) = i
    · rw [if_pos hk, if_pos hk, h k hk.1 (by omega) hk.2]
    · rw [if_neg hk, if_neg hk]
theorem chs_mono {d : Dst} {f g : Nat → Nat} {i : Nat} : ∀ {k : Nat}, (∀ c, c < k → f c ≤ g c) → chs d f i k ≤ chs d g i k
  | 0, _ => Nat.le_refl _
  | k + 1, h => by
    simp only [chs]
    have := chs_mono (d := d) (i := i) (k := k) (fun c hc => h c (by omega))
    have := h k (by omega)
    split <;> omega
/-- no child of i is at most i -/
theorem chs_low {d : Dst} (hT : Topo d) (f : Nat → Nat) {i : Nat} : ∀ {k : Nat}, k ≤ d 1 → k ≤ i + 1 → chs d f i k = 0
  | 0, _, _ => rfl
  | k + 1, h1, h2 => by
    simp only [chs]
    rw [chs_low hT f (k := k) (by omega) (by omega), if_neg]
    rintro ⟨h3, h4⟩
    have := hT.2.2.1 k h3 (by omega)
    omega
/-- a child's part of its parent's sum -/
theorem chs_part {d : Dst} {f : Nat → Nat} {i c : Nat} (h0 : 0 < c) (hp : d (40 + c) = i) : ∀ {k : Nat}, c < k → f c ≤ chs d f i k
  | 0, h => absurd h (Nat.not_lt_zero _)
  | k + 1, h => by
    simp only [chs]
    by_cases hk : c = k
    · subst hk
      rw [if_pos ⟨h0, hp⟩]
      omega
    · have := chs_part h0 hp (f := f) (k := k) (by omega)
      omega
/-- two sums that differ at one child -/
theorem chs_one {d : Dst} {f g : Nat → Nat} {i c : Nat} (h0 : 0 < c) (hp : d (40 + c) = i) : ∀ {k : Nat}, c < k → (∀ c', 0 < c' → c' < k → d (40 + c') = i → c' ≠ c → f c' = g c') → chs d f i k + g c = chs d g i k + f c
  | 0, h, _ => absurd h (Nat.not_lt_zero _)
  | k + 1, h, he => by
    simp only [chs]
    by_cases hk : c = k
    · subst hk
      rw [if_pos ⟨h0, hp⟩, if_pos ⟨h0, hp⟩, chs_congr (k := c) (f := f) (g := g) (fun c' a b e => he c' a (by omega) e (by omega))]
      omega
    · have := chs_one h0 hp (f := f) (g := g) (k := k) (by omega) (fun c' a b => he c' a (by omega))
      by_cases hq : 0 < k ∧ d (40 + k) = i
      · rw [if_pos hq, if_pos hq, he k hq.1 (by omega) hq.2 (fun z => hk z.symm)]
        omega
      · rw [if_neg hq, if_neg hq]
        omega
theorem ffu_stable {d : Dst} (a : Nat → Nat) (hT : Topo d) : ∀ (s i : Nat), i < d 1 → d 1 - i ≤ s → ffu d a s i = ffu d a (s + 1) i
  | 0, i, hi, hs => by omega
  | s + 1, i, hi, hs => by
    show infl _ (_ + chs d (ffu d a s) i (d 1)) = infl _ (_ + chs d (ffu d a (s + 1)) i (d 1))
    rw [chs_congr (g := ffu d a (s + 1)) (fun c h0 hc hp => ffu_stable a hT s c hc (by have := hT.2.2.1 c h0 hc; omega))]
theorem FF_fix {d : Dst} (a : Nat → Nat) (hT : Topo d) {i : Nat} (hi : i < d 1) : FF d a i = infl (d (60 + i)) (FP d a i) := (ffu_stable a hT (d 1) i hi (by omega)).trans rfl
theorem pu_mono {d : Dst} {a b : Nat → Nat} {i : Nat} : ∀ {m : Nat}, (∀ u, u < m → a u ≤ b u) → pu d a i m ≤ pu d b i m
  | 0, _ => Nat.le_refl _
  | m + 1, h => by
    simp only [pu]
    have := pu_mono (d := d) (i := i) (m := m) (fun u hu => h u (by omega))
    have := h m (by omega)
    split <;> omega
theorem ffu_mono {d : Dst} (hT : Topo d) {a b : Nat → Nat} (h : ∀ u, u < d 2 → a u ≤ b u) : ∀ (s i : Nat), i < d 1 → ffu d a s i ≤ ffu d b s i
  | 0, _, _ => Nat.le_refl _
  | s + 1, i, hi => infl_mono (hT.2.2.2.1 i hi) (Nat.add_le_add (pu_mono h) (chs_mono (fun c hc => ffu_mono hT h s c hc)))
theorem FF_mono {d : Dst} (hT : Topo d) {a b : Nat → Nat} (h : ∀ u, u < d 2 → a u ≤ b u) {i : Nat} (hi : i < d 1) : FF d a i ≤ FF d b i := ffu_mono hT h _ i hi
theorem FP_mono {d : Dst} (hT : Topo d) {a b : Nat → Nat} (h : ∀ u, u < d 2 → a u ≤ b u) (i : Nat) : FP d a i ≤ FP d b i := Nat.add_le_add (pu_mono h) (chs_mono (fun c hc => FF_mono hT h hc))
theorem FF_congr {d : Dst} (hT : Topo d) {a b : Nat → Nat} (h : ∀ u, u < d 2 → a u = b u) {i : Nat} (hi : i < d 1) : FF d a i = FF d b i := Nat.le_antisymm (FF_mono hT (fun u hu => Nat.le_of_eq (h u hu)) hi) (FF_mono hT (fun u hu => Nat.le_of_eq (h u hu).symm) hi)
theorem FP_congr {d : Dst} (hT : Topo d) {a b : Nat → Nat} (h : ∀ u, u < d 2 → a u = b u) (i : Nat) : FP d a i = FP d b i := Nat.le_antisymm (FP_mono hT (fun u hu => Nat.le_of_eq (h u hu)) i) (FP_mono hT (fun u hu => Nat.le_of_eq (h u hu).symm) i)
/-- a child's inflow is a part of what its parent passes on -/
theorem FF_part {d : Dst} (a : Nat → Nat) {c : Nat} (h0 : 0 < c) (hc : c < d 1) : FF d a c ≤ FP d a (d (40 + c)) := Nat.le_trans (chs_part (f := FF d a) h0 rfl hc) (Nat.le_add_left _ _)
theorem pu_part {d : Dst} (a : Nat → Nat) {u : Nat} : ∀ {m : Nat}, u < m → a u ≤ pu d a (d (70 + u)) m
  | 0, h => absurd h (Nat.not_lt_zero _)
  | m + 1, h => by
    simp only [pu]
    by_cases hk : u = m
    · subst hk
      rw [if_pos rfl]
      omega
    · have := pu_part (d := d) a (u := u) (m := m) (by omega)
      omega
theorem FP_user {d : Dst} (a : Nat → Nat) {u : Nat} (hu : u < d 2) : a u ≤ FP d a (d (70 + u)) := Nat.le_trans (pu_part a hu) (Nat.le_add_right _ _)
-- amounts: one changed
def au (a : Nat → Nat) (u x : Nat) : Nat → Nat := fun v => if v = u then x else a v
theorem au_self (a : Nat → Nat) (u x : Nat) : au a u x u = x := if_pos rfl
theorem au_ne (a : Nat → Nat) {u v : Nat} (x : Nat) (h : v ≠ u) : au a u x v = a v := if_neg h
theorem pu_other {d : Dst} (a : Nat → Nat) (u x : Nat) {i : Nat} (h : d (70 + u) ≠ i) : ∀ (m : Nat), pu d (au a u x) i m = pu d a i m
  | 0 => rfl
  | m + 1 => by
    simp only [pu]
    rw [pu_other a u x h m]
    by_cases hk : m = u
    · subst hk
      rw [if_neg h, if_neg h]
    · rw [au_ne a x hk]
theorem pu_own {d : Dst} (a : Nat → Nat) (u x : Nat) : ∀ {m : Nat}, u < m → pu d (au a u x) (d (70 + u)) m + a u = pu d a (d (70 + u)) m + x
  | 0, h => absurd h (Nat.not_lt_zero _)
  | m + 1, h => by
    simp only [pu]
    by_cases hk : u = m
    · subst hk
      have h2 : ∀ k, k ≤ u → pu d (au a u x) (d (70 + u)) k = pu d a (d (70 + u)) k := by
        intro k
        induction k with
        | zero => intro _; rfl
        | succ k ih =>
          intro hk
          simp only [pu]
          rw [ih (by omega), au_ne a x (by omega)]
      rw [if_pos rfl, if_pos rfl, au_self, h2 u (Nat.le_refl _)]
      omega
    · have := pu_own (d := d) a u x (m := m) (by omega)
      rw [au_ne a x (fun z => hk z.symm)]
      omega
/-- the way from a ditch to ditch 0 -/
def pth (d : Dst) (w : Nat) : Nat → Nat
  | 0 => w
  | k + 1 => d (40 + pth d w k)
theorem pth_lt {d : Dst} (hT : Topo d) {w : Nat} (hw : w < d 1) : ∀ k, pth d w k < d 1 ∧ (pth d w (k + 1) < pth d w k ∨ pth d w k = 0 ∧ pth d w (k + 1) = 0)
  | k => by
    have h1 : pth d w k < d 1 := by
      cases k with
      | zero => exact hw
      | succ k =>
        obtain ⟨h1, h2⟩ := pth_lt hT hw k
        omega
    refine ⟨h1, ?_⟩
    by_cases h0 : pth d w k = 0
    · right
      refine ⟨h0, ?_⟩
      show d (40 + pth d w k) = 0
      rw [h0]
      exact hT.2.1
    · left
      exact hT.2.2.1 (pth d w k) (Nat.pos_of_ne_zero h0) h1
theorem pth_le {d : Dst} (hT : Topo d) {w : Nat} (hw : w < d 1) (k : Nat) : ∀ j, pth d w (k + j) ≤ pth d w k
  | 0 => Nat.le_refl _
  | j + 1 => by
    have h1 := pth_le hT hw k j
    have h2 := (pth_lt hT hw (k + j)).2
    show pth d w (k + j + 1) ≤ _
    omega
/-- of two on the way with one parent: they are one -/
theorem pth_one {d : Dst} (hT : Topo d) {w : Nat} (hw : w < d 1) {k k' : Nat} (h0 : 0 < pth d w k) (h0' : 0 < pth d w k') (he : d (40 + pth d w k) = d (40 + pth d w k')) : pth d w k = pth d w k' := by
  have key : ∀ (i j : Nat), 0 < pth d w j → i < j → d (40 + pth d w i) = d (40 + pth d w j) → False := by
    intro i j hj hij h
    have h1 : pth d w (i + 1 + (j - (i + 1))) ≤ pth d w (i + 1) := pth_le hT hw (i + 1) _
    rw [show i + 1 + (j - (i + 1)) = j by omega] at h1
    have h2 : pth d w (j + 1) < pth d w j := by
      have := (pth_lt hT hw j).2
      omega
    have h3 : pth d w (i + 1) = pth d w (j + 1) := h
    omega
  rcases Nat.lt_trichotomy k k' with h | h | h
  · exact (key k k' h0' h he).elim
  · rw [h]
  · exact (key k' k h0 h he.symm).elim
section MOST
variable {d : Dst} (hT : Topo d) {a : Nat → Nat} {u x : Nat} (hu : u < d 2)
theorem off_path (hT : Topo d) (hu : u < d 2) : ∀ (n i : Nat), d 1 - i ≤ n → i < d 1 → (∀ k, pth d (d (70 + u)) k ≠ i) → FP d (au a u x) i = FP d a i ∧ FF d (au a u x) i = FF d a i
  | 0, i, hn, hi, _ => by omega
  | n + 1, i, hn, hi, hp => by
    have e : FP d (au a u x) i = FP d a i := by
      unfold FP
      rw [pu_other a u x (fun z => hp 0 z)]
      rw [chs_congr (f := FF d (au a u x)) (g := FF d a) (fun c h0 hc he => ?_)]
      have hlt := hT.2.2.1 c h0 hc
      exact (off_path hT hu n c (by omega) hc (fun k hk => hp (k + 1) (by show d (40 + pth d _ k) = i; rw [hk]; exact he))).2
    exact ⟨e, by rw [FF_fix _ hT hi, FF_fix _ hT hi, e]⟩
theorem on_path0 (hT : Topo d) (hu : u < d 2) : FP d (au a u x) (d (70 + u)) + a u = FP d a (d (70 + u)) + x := by
  have hw := hT.2.2.2.2 u hu
  unfold FP
  have h1 := pu_own (d := d) a u x hu
  rw [chs_congr (f := FF d (au a u x)) (g := FF d a) (fun c h0 hc he => ?_)]
  · omega
  · have hlt := hT.2.2.1 c h0 hc
    refine (off_path hT hu (d 1) c (by omega) hc (fun k hk => ?_)).2
    have h2 : pth d (d (70 + u)) (0 + k) ≤ pth d (d (70 + u)) 0 := pth_le hT hw 0 k
    rw [Nat.zero_add, hk] at h2
    have h3 : pth d (d (70 + u)) 0 = d (70 + u) := rfl
    omega
theorem on_path1 (hT : Topo d) (hu : u < d 2) {k : Nat} (h0 : 0 < pth d (d (70 + u)) k) : FP d (au a u x) (pth d (d (70 + u)) (k + 1)) + FF d a (pth d (d (70 + u)) k) = FP d a (pth d (d (70 + u)) (k + 1)) + FF d (au a u x) (pth d (d (70 + u)) k) := by
  have hw := hT.2.2.2.2 u hu
  obtain ⟨hk, hk2⟩ := pth_lt hT hw k
  have hlt : pth d (d (70 + u)) (k + 1) < pth d (d (70 + u)) k := by omega
  have hle : pth d (d (70 + u)) (0 + k) ≤ pth d (d (70 + u)) 0 := pth_le hT hw 0 k
  rw [Nat.zero_add] at hle
  unfold FP
  rw [pu_other a u x (fun z => by have h3 : pth d (d (70 + u)) 0 = d (70 + u) := rfl; omega)]
  have := chs_one (d := d) (f := FF d (au a u x)) (g := FF d a) (i := pth d (d (70 + u)) (k + 1)) h0 rfl hk (fun c' a0 a1 he hne => by
    refine (off_path hT hu (d 1) c' (by omega) a1 (fun k' hk' => hne ?_)).2
    rw [← hk']
    exact pth_one hT hw (by rw [hk']; exact a0) h0 (by rw [hk']; exact he))
  omega
end MOST
/-- amounts are possible -/
def Poss (d : Dst) (a : Nat → Nat) : Prop := (∀ i, i < d 1 → FF d a i ≤ d (50 + i)) ∧ FF d a 0 ≤ sup d
theorem Poss.mono {d : Dst} (hT : Topo d) {a b : Nat → Nat} (h : ∀ u, u < d 2 → a u ≤ b u) (hb : Poss d b) : Poss d a := ⟨fun i hi => Nat.le_trans (FF_mono hT h hi) (hb.1 i hi), Nat.le_trans (FF_mono hT h hT.1) hb.2⟩
def mf (d : Dst) (a : Nat → Nat) : Nat → Nat → Nat
  | 0, _ => 0
  | s + 1, i => if i = 0 then min (d 50) (sup d) else min (d (50 + i)) (psd (d (60 + d (40 + i))) (mf d a s (d (40 + i))) - (FP d a (d (40 + i)) - FF d a i))
def mst (d : Dst) (a : Nat → Nat) (i : Nat) : Nat := mf d a (i + 1) i
theorem mf_stable {d : Dst} (hT : Topo d) (a : Nat → Nat) : ∀ (s i : Nat), i < d 1 → i < s → mf d a s i = mf d a (s + 1) i
  | 0, _, _, h => absurd h (Nat.not_lt_zero _)
  | s + 1, i, hi, hs => by
    show (if i = 0 then _ else min _ (psd _ (mf d a s (d (40 + i))) - _)) = (if i = 0 then _ else min _ (psd _ (mf d a (s + 1) (d (40 + i))) - _))
    by_cases h0 : i = 0
    · rw [if_pos h0, if_pos h0]
    · have hp := hT.2.2.1 i (by omega) hi
      rw [if_neg h0, if_neg h0, mf_stable hT a s _ (by omega) (by omega)]
theorem mf_eq {d : Dst} (hT : Topo d) (a : Nat → Nat) {i : Nat} (hi : i < d 1) : ∀ (k : Nat), mf d a (i + 1 + k) i = mst d a i
  | 0 => rfl
  | k + 1 => ((mf_stable hT a (i + 1 + k) i hi (by omega)).symm).trans (mf_eq hT a hi k)
theorem mst_0 {d : Dst} (a : Nat → Nat) : mst d a 0 = min (d 50) (sup d) := rfl
theorem mst_fix {d : Dst} (hT : Topo d) (a : Nat → Nat) {i : Nat} (h0 : 0 < i) (hi : i < d 1) : mst d a i = min (d (50 + i)) (psd (d (60 + d (40 + i))) (mst d a (d (40 + i))) - (FP d a (d (40 + i)) - FF d a i)) := by
  have hp := hT.2.2.1 i h0 hi
  show (if i = 0 then _ else min _ (psd _ (mf d a i (d (40 + i))) - _)) = _
  rw [if_neg (by omega)]
  have := mf_eq hT a (i := d (40 + i)) (by omega) (i - (d (40 + i) + 1))
  rw [show d (40 + i) + 1 + (i - (d (40 + i) + 1)) = i by omega] at this
  rw [this]
/-- possible amounts: each ditch has at most what it could have -/
theorem FF_mst {d : Dst} (hT : Topo d) {a : Nat → Nat} (hP : Poss d a) : ∀ (n i : Nat), i ≤ n → i < d 1 → FF d a i ≤ mst d a i
  | n, i, hn, hi => by
    by_cases h0 : i = 0
    · subst h0
      rw [mst_0]
      exact Nat.le_min.mpr ⟨hP.1 0 hi, hP.2⟩
    · have hp := hT.2.2.1 i (by omega) hi
      cases n with
      | zero => omega
      | succ n =>
        have h1 := FF_mst hT hP n (d (40 + i)) (by omega) (by omega)
        rw [FF_fix a hT (i := d (40 + i)) (by omega), infl_le (hT.2.2.2.1 _ (by omega))] at h1
        have h2 := FF_part a (d := d) (c := i) (by omega) hi
        rw [mst_fix hT a (by omega) hi]
        refine Nat.le_min.mpr ⟨hP.1 i hi, ?_⟩
        omega
theorem FP_mst {d : Dst} (hT : Topo d) {a : Nat → Nat} (hP : Poss d a) {i : Nat} (hi : i < d 1) : FP d a i ≤ psd (d (60 + i)) (mst d a i) := by
  have h1 := FF_mst hT hP i i (Nat.le_refl _) hi
  rwa [FF_fix a hT hi, infl_le (hT.2.2.2.1 _ hi)] at h1
/-- the most that a user can be given -/
def mx (d : Dst) (a : Nat → Nat) (u : Nat) : Nat := psd (d (60 + d (70 + u))) (mst d a (d (70 + u))) - (FP d a (d (70 + u)) - a u)
theorem mst_up {d : Dst} (hT : Topo d) {a : Nat → Nat} (hP : Poss d a) {u x : Nat} (hu : u < d 2) : ∀ (n k : Nat), pth d (d (70 + u)) k ≤ n → (FF d (au a u x) (pth d (d (70 + u)) k) ≤ mst d a (pth d (d (70 + u)) k) ↔ (∀ j, k ≤ j → FF d (au a u x) (pth d (d (70 + u)) j) ≤ d (50 + pth d (d (70 + u)) j)) ∧ FF d (au a u x) 0 ≤ sup d) := by
  have hw := hT.2.2.2.2 u hu
  have zero : ∀ (k : Nat), pth d (d (70 + u)) k = 0 → (FF d (au a u x) (pth d (d (70 + u)) k) ≤ mst d a (pth d (d (70 + u)) k) ↔ (∀ j, k ≤ j → FF d (au a u x) (pth d (d (70 + u)) j) ≤ d (50 + pth d (d (70 + u)) j)) ∧ FF d (au a u x) 0 ≤ sup d) := by
    intro k h
    have hz : ∀ j, k ≤ j → pth d (d (70 + u)) j = 0 := by
      intro j hj
      have := pth_le hT hw k (j - k)
      rw [show k + (j - k) = j by omega] at this
      omega
    rw [h, mst_0, Nat.le_min]
    constructor
    · rintro ⟨h1, h2⟩
      exact ⟨fun j hj => by rw [hz j hj]; exact h1, h2⟩
    · rintro ⟨h1, h2⟩
      have := h1 k (Nat.le_refl _)
      rw [h] at this
      exact ⟨this, h2⟩
  intro n
  induction n with
  | zero => intro k hk; exact zero k (by omega)
  | succ n ih =>
    intro k hk
    by_cases h0 : pth d (d (70 + u)) k = 0
    · exact zero k h0
    · obtain ⟨hk1, hk2⟩ := pth_lt hT hw k
      have hlt : pth d (d (70 + u)) (k + 1) < pth d (d (70 + u)) k := by omega
      have hpar : d (40 + pth d (d (70 + u)) k) = pth d (d (70 + u)) (k + 1) := rfl
      have h1 := ih (k + 1) (by omega)
      have h2 := on_path1 (a := a) (x := x) hT hu (k := k) (by omega)
      have h3 := FF_part a (d := d) (c := pth d (d (70 + u)) k) (by omega) hk1
      have h4 := FP_mst hT hP (i := pth d (d (70 + u)) (k + 1)) (by omega)
      rw [FF_fix _ hT (i := pth d (d (70 + u)) (k + 1)) (by omega), infl_le (hT.2.2.2.1 _ (by omega))] at h1
      rw [mst_fix hT a (by omega) hk1, Nat.le_min, hpar]
      rw [hpar] at h3
      constructor
      · rintro ⟨g1, g2⟩
        obtain ⟨q1, q2⟩ := h1.mp (by omega)
        refine ⟨fun j hj => ?_, q2⟩
        by_cases hjk : j = k
        · rw [hjk]; exact g1
        · exact q1 j (by omega)
      · rintro ⟨q1, q2⟩
        have g := h1.mpr ⟨fun j hj => q1 j (by omega), q2⟩
        exact ⟨q1 k (Nat.le_refl _), by omega⟩
/-- WHAT A USER CAN GET: with the others as they are, exactly the amounts up to mx are possible -/
theorem Poss_au {d : Dst} (hT : Topo d) {a : Nat → Nat} (hP : Poss d a) {u x : Nat} (hu : u < d 2) : Poss d (au a u x) ↔ x ≤ mx d a u := by
  have hw := hT.2.2.2.2 u hu
  have h1 := mst_up hT hP (x := x) hu (d (70 + u)) 0 (Nat.le_refl _)
  have hw0 : pth d (d (70 + u)) 0 = d (70 + u) := rfl
  rw [hw0] at h1
  have h2 := on_path0 (a := a) (x := x) hT hu
  have h3 := FP_user a hu
  have h4 := FP_mst hT hP hw
  rw [FF_fix _ hT hw, infl_le (hT.2.2.2.1 _ hw)] at h1
  have h5 : x ≤ mx d a u ↔ FP d (au a u x) (d (70 + u)) ≤ psd (d (60 + d (70 + u))) (mst d a (d (70 + u))) := by
    unfold mx
    omega
  rw [h5, h1]
  constructor
  · intro h
    exact ⟨fun j _ => h.1 _ (pth_lt hT hw j).1, h.2⟩
  · rintro ⟨q1, q2⟩
    refine ⟨fun i hi => ?_, q2⟩
    by_cases hi2 : ∃ k, pth d (d (70 + u)) k = i
    · obtain ⟨k, rfl⟩ := hi2
      exact q1 k (Nat.zero_le _)
    · rw [(off_path hT hu (d 1) i (by omega) hi (fun k hk => hi2 ⟨k, hk⟩)).2]
      exact hP.1 i hi
theorem mx_ge {d : Dst} (hT : Topo d) {a : Nat → Nat} (hP : Poss d a) {u : Nat} (hu : u < d 2) : a u ≤ mx d a u := by
  have h3 := FP_user a hu
  have h4 := FP_mst hT hP (hT.2.2.2.2 u hu)
  unfold mx
  omega
