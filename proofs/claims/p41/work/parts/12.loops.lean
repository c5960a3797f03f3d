/-! PART 12: rules for the J_ predicates: loops, branches, numbers -/
theorem fa_lit (n : Nat) : (OfNat.ofNat n : Int32) = nI n := rfl
theorem br_le {a b : Nat} {A B : Prop} (ha : a < 2 ^ 31) (hb : b < 2 ^ 31) (f : a ≤ b → A) (g : b < a → B) : (nI a ≤ nI b → A) ∧ (¬ nI a ≤ nI b → B) := ⟨fun h => f ((nI_leI ha hb).mp h), fun h => g (Nat.lt_of_not_le (fun q => h ((nI_leI ha hb).mpr q)))⟩
theorem br_lt {a b : Nat} {A B : Prop} (ha : a < 2 ^ 31) (hb : b < 2 ^ 31) (f : a < b → A) (g : b ≤ a → B) : (nI a < nI b → A) ∧ (¬ nI a < nI b → B) := ⟨fun h => f ((nI_ltI ha hb).mp h), fun h => g (Nat.le_of_not_lt (fun q => h ((nI_ltI ha hb).mpr q)))⟩
theorem br_eq {a b : Nat} {A B : Prop} (ha : a < 2 ^ 31) (hb : b < 2 ^ 31) (f : a = b → A) (g : a ≠ b → B) : (nI a = nI b → A) ∧ (¬ nI a = nI b → B) := ⟨fun h => f ((nI_eq ha hb).mp h), fun h => g (fun q => h ((nI_eq ha hb).mpr q))⟩
theorem br_ne {a b : Nat} {A B : Prop} (ha : a < 2 ^ 31) (hb : b < 2 ^ 31) (f : a = b → B) (g : a ≠ b → A) : (¬ nI a = nI b → A) ∧ (nI a = nI b → B) := ⟨fun h => g (fun q => h ((nI_eq ha hb).mpr q)), fun h => f ((nI_eq ha hb).mp h)⟩
/-- a loop whose counter goes up from 0 to n; the memory changes -/
theorem lpM {B : (Int32 → Mem → Prop) → (Int32 → Mem → Nat) → Int32 → Mem → Prop} {τ0 : Mem} (n : Nat) (hn : n < 2 ^ 30) (P : Nat → Mem → Prop) (h0 : P 0 τ0) (hB : ∀ (k : Nat) (τ : Mem) (I : Int32 → Mem → Prop) (μ : Int32 → Mem → Nat), k ≤ n → P k τ → (k < n → ∀ τ' : Mem, P (k + 1) τ' → I (nI (k + 1)) τ' ∧ μ (nI (k + 1)) τ' < μ (nI k) τ) → B I μ (nI k) τ) : ∃ (I : Int32 → Mem → Prop) (μ : Int32 → Mem → Nat), I 0 τ0 ∧ ∀ (x : Int32) (τ : Mem), I x τ → B I μ x τ := by
  refine ⟨fun x τ => ∃ k, k ≤ n ∧ x = nI k ∧ P k τ, fun x _ => n - x.toNatClampNeg, ⟨0, Nat.zero_le _, rfl, h0⟩, ?_⟩
  rintro x τ ⟨k, hk, rfl, hP⟩
  refine hB k τ _ _ hk hP (fun hlt τ' hP' => ⟨⟨k + 1, hlt, rfl, hP'⟩, ?_⟩)
  show n - (nI (k + 1)).toNatClampNeg < n - (nI k).toNatClampNeg
  rw [nI_clamp (by omega), nI_clamp (by omega)]
  omega
/-- as lpM, from a counter on -/
theorem lpMf {B : (Int32 → Mem → Prop) → (Int32 → Mem → Nat) → Int32 → Mem → Prop} {τ0 : Mem} {x0 : Int32} (i0 n : Nat) (hx : x0 = nI i0) (hi : i0 ≤ n) (hn : n < 2 ^ 30) (P : Nat → Mem → Prop) (h0 : P i0 τ0) (hB : ∀ (k : Nat) (τ : Mem) (I : Int32 → Mem → Prop) (μ : Int32 → Mem → Nat), i0 ≤ k → k ≤ n → P k τ → (k < n → ∀ τ' : Mem, P (k + 1) τ' → I (nI (k + 1)) τ' ∧ μ (nI (k + 1)) τ' < μ (nI k) τ) → B I μ (nI k) τ) : ∃ (I : Int32 → Mem → Prop) (μ : Int32 → Mem → Nat), I x0 τ0 ∧ ∀ (x : Int32) (τ : Mem), I x τ → B I μ x τ := by
  refine ⟨fun x τ => ∃ k, i0 ≤ k ∧ k ≤ n ∧ x = nI k ∧ P k τ, fun x _ => n - x.toNatClampNeg, ⟨i0, Nat.le_refl _, hi, hx, h0⟩, ?_⟩
  rintro x τ ⟨k, hk0, hk, rfl, hP⟩
  refine hB k τ _ _ hk0 hk hP (fun hlt τ' hP' => ⟨⟨k + 1, by omega, hlt, rfl, hP'⟩, ?_⟩)
  show n - (nI (k + 1)).toNatClampNeg < n - (nI k).toNatClampNeg
  rw [nI_clamp (by omega), nI_clamp (by omega)]
  omega
/-- the counter alone -/
theorem lpC {B : (Int32 → Prop) → (Int32 → Nat) → Int32 → Prop} (n : Nat) (hn : n < 2 ^ 30) (P : Nat → Prop) (h0 : P 0) (hB : ∀ (k : Nat) (I : Int32 → Prop) (μ : Int32 → Nat), k ≤ n → P k → (k < n → P (k + 1) → I (nI (k + 1)) ∧ μ (nI (k + 1)) < μ (nI k)) → B I μ (nI k)) : ∃ (I : Int32 → Prop) (μ : Int32 → Nat), I 0 ∧ ∀ (x : Int32), I x → B I μ x := by
  refine ⟨fun x => ∃ k, k ≤ n ∧ x = nI k ∧ P k, fun x => n - x.toNatClampNeg, ⟨0, Nat.zero_le _, rfl, h0⟩, ?_⟩
  rintro x ⟨k, hk, rfl, hP⟩
  refine hB k _ _ hk hP (fun hlt hP' => ⟨⟨k + 1, hlt, rfl, hP'⟩, ?_⟩)
  show n - (nI (k + 1)).toNatClampNeg < n - (nI k).toNatClampNeg
  rw [nI_clamp (by omega), nI_clamp (by omega)]
  omega
/-- a number and a counter behind it, up from 0 to n -/
theorem lpA {B : (Int32 → Int32 → Prop) → (Int32 → Int32 → Nat) → Int32 → Int32 → Prop} {y0 : Int32} (n : Nat) (hn : n < 2 ^ 30) (f : Nat → Int32) (h0 : y0 = f 0) (hB : ∀ (k : Nat) (I : Int32 → Int32 → Prop) (μ : Int32 → Int32 → Nat), k ≤ n → (k < n → I (f (k + 1)) (nI (k + 1)) ∧ μ (f (k + 1)) (nI (k + 1)) < μ (f k) (nI k)) → B I μ (f k) (nI k)) : ∃ (I : Int32 → Int32 → Prop) (μ : Int32 → Int32 → Nat), I y0 0 ∧ ∀ (y x : Int32), I y x → B I μ y x := by
  refine ⟨fun y x => ∃ k, k ≤ n ∧ x = nI k ∧ y = f k, fun _ x => n - x.toNatClampNeg, ⟨0, Nat.zero_le _, rfl, h0⟩, ?_⟩
  rintro y x ⟨k, hk, rfl, rfl⟩
  refine hB k _ _ hk (fun hlt => ⟨⟨k + 1, hlt, rfl, rfl⟩, ?_⟩)
  show n - (nI (k + 1)).toNatClampNeg < n - (nI k).toNatClampNeg
  rw [nI_clamp (by omega), nI_clamp (by omega)]
  omega
/-- a number, a counter behind it, and the memory -/
theorem lpAM {B : (Int32 → Int32 → Mem → Prop) → (Int32 → Int32 → Mem → Nat) → Int32 → Int32 → Mem → Prop} {y0 : Int32} {τ0 : Mem} (n : Nat) (hn : n < 2 ^ 30) (P : Nat → Int32 → Mem → Prop) (h0 : P 0 y0 τ0) (hB : ∀ (k : Nat) (y : Int32) (τ : Mem) (I : Int32 → Int32 → Mem → Prop) (μ : Int32 → Int32 → Mem → Nat), k ≤ n → P k y τ → (k < n → ∀ (y' : Int32) (τ' : Mem), P (k + 1) y' τ' → I y' (nI (k + 1)) τ' ∧ μ y' (nI (k + 1)) τ' < μ y (nI k) τ) → B I μ y (nI k) τ) : ∃ (I : Int32 → Int32 → Mem → Prop) (μ : Int32 → Int32 → Mem → Nat), I y0 0 τ0 ∧ ∀ (y x : Int32) (τ : Mem), I y x τ → B I μ y x τ := by
  refine ⟨fun y x τ => ∃ k, k ≤ n ∧ x = nI k ∧ P k y τ, fun _ x _ => n - x.toNatClampNeg, ⟨0, Nat.zero_le _, rfl, h0⟩, ?_⟩
  rintro y x τ ⟨k, hk, rfl, hP⟩
  refine hB k y τ _ _ hk hP (fun hlt y' τ' hP' => ⟨⟨k + 1, hlt, rfl, hP'⟩, ?_⟩)
  show n - (nI (k + 1)).toNatClampNeg < n - (nI k).toNatClampNeg
  rw [nI_clamp (by omega), nI_clamp (by omega)]
  omega
/-- a counter that goes down from n - 1 to 0, then -1: dI k = k - 1 -/
def dI (k : Nat) : Int32 := nI k - 1
theorem dI_succ (k : Nat) : dI (k + 1) = nI k := nI_pred k
theorem dI_0 : dI 0 = -1 := by decide
theorem nI_m1 (k : Nat) : nI k + (-1) = dI k := by
  unfold dI
  rw [Int32.sub_eq_add_neg]
theorem dI_neg : dI 0 < 0 := by decide
theorem lpD {B : (Int32 → Mem → Prop) → (Int32 → Mem → Nat) → Int32 → Mem → Prop} {τ0 : Mem} {x0 : Int32} (n : Nat) (hx : x0 = dI n) (hn : n < 2 ^ 30) (P : Nat → Mem → Prop) (h0 : P n τ0) (hE : ∀ (τ : Mem) (I : Int32 → Mem → Prop) (μ : Int32 → Mem → Nat), P 0 τ → B I μ (-1) τ) (hB : ∀ (k : Nat) (τ : Mem) (I : Int32 → Mem → Prop) (μ : Int32 → Mem → Nat), k < n → P (k + 1) τ → (∀ τ' : Mem, P k τ' → I (nI k + (-1)) τ' ∧ μ (nI k + (-1)) τ' < μ (nI k) τ) → B I μ (nI k) τ) : ∃ (I : Int32 → Mem → Prop) (μ : Int32 → Mem → Nat), I x0 τ0 ∧ ∀ (x : Int32) (τ : Mem), I x τ → B I μ x τ := by
  refine ⟨fun x τ => ∃ k, k ≤ n ∧ x = dI k ∧ P k τ, fun x _ => (x + 1).toNatClampNeg, ⟨n, Nat.le_refl _, hx, h0⟩, ?_⟩
  rintro x τ ⟨k, hk, rfl, hP⟩
  have e : ∀ j, dI j + 1 = nI j := fun j => by unfold dI; rw [Int32.sub_add_cancel]
  cases k with
  | zero => rw [dI_0]; exact hE τ _ _ hP
  | succ k =>
    have key : (∀ τ' : Mem, P k τ' → (∃ j, j ≤ n ∧ nI k + (-1) = dI j ∧ P j τ') ∧ (nI k + (-1) + 1).toNatClampNeg < (nI k + 1).toNatClampNeg) := by
      intro τ' hP'
      refine ⟨⟨k, by omega, nI_m1 k, hP'⟩, ?_⟩
      rw [nI_m1, e, nI_1, nI_clamp (by omega), nI_clamp (by omega)]
      omega
    rw [dI_succ]
    exact hB k τ _ _ (by omega) hP key
theorem lpDA {B : (Int32 → Int32 → Mem → Prop) → (Int32 → Int32 → Mem → Nat) → Int32 → Int32 → Mem → Prop} {τ0 : Mem} {x0 y0 : Int32} (n : Nat) (hx : x0 = dI n) (hn : n < 2 ^ 30) (P : Nat → Int32 → Mem → Prop) (h0 : P n y0 τ0) (hE : ∀ (y : Int32) (τ : Mem) (I : Int32 → Int32 → Mem → Prop) (μ : Int32 → Int32 → Mem → Nat), P 0 y τ → B I μ y (-1) τ) (hB : ∀ (k : Nat) (y : Int32) (τ : Mem) (I : Int32 → Int32 → Mem → Prop) (μ : Int32 → Int32 → Mem → Nat), k < n → P (k + 1) y τ → (∀ (y' : Int32) (τ' : Mem), P k y' τ' → I y' (nI k + (-1)) τ' ∧ μ y' (nI k + (-1)) τ' < μ y (nI k) τ) → B I μ y (nI k) τ) : ∃ (I : Int32 → Int32 → Mem → Prop) (μ : Int32 → Int32 → Mem → Nat), I y0 x0 τ0 ∧ ∀ (y x : Int32) (τ : Mem), I y x τ → B I μ y x τ := by
  refine ⟨fun y x τ => ∃ k, k ≤ n ∧ x = dI k ∧ P k y τ, fun _ x _ => (x + 1).toNatClampNeg, ⟨n, Nat.le_refl _, hx, h0⟩, ?_⟩
  rintro y x τ ⟨k, hk, rfl, hP⟩
  have e : ∀ j, dI j + 1 = nI j := fun j => by unfold dI; rw [Int32.sub_add_cancel]
  cases k with
  | zero => rw [dI_0]; exact hE y τ _ _ hP
  | succ k =>
    have key : (∀ (y' : Int32) (τ' : Mem), P k y' τ' → (∃ j, j ≤ n ∧ nI k + (-1) = dI j ∧ P j y' τ') ∧ (nI k + (-1) + 1).toNatClampNeg < (nI k + 1).toNatClampNeg) := by
      intro y' τ' hP'
      refine ⟨⟨k, by omega, nI_m1 k, hP'⟩, ?_⟩
      rw [nI_m1, e, nI_1, nI_clamp (by omega), nI_clamp (by omega)]
      omega
    rw [dI_succ]
    exact hB k y τ _ _ (by omega) hP key
-- the memory
theorem mup_at (σ : Mem) (o : Oid) (k : Nat) (x : Int32) (j : Nat) : mup σ o k x o j = if j = k then x else σ o j := by rw [mup_self]; rfl
theorem mup_same (σ : Mem) (o : Oid) (k : Nat) (x : Int32) : mup σ o k x o k = x := by rw [mup_at, if_pos rfl]
theorem mup_other (σ : Mem) (o : Oid) {k j : Nat} (x : Int32) (h : j ≠ k) : mup σ o k x o j = σ o j := by rw [mup_at, if_neg h]
/-- the first n places of an array hold f -/
def Arr (σ : Mem) (o : Oid) (n : Nat) (f : Nat → Nat) : Prop := ∀ i, i < n → σ o i = nI (f i)
theorem Arr.mono {σ : Mem} {o : Oid} {n m : Nat} {f : Nat → Nat} (h : Arr σ o n f) (hm : m ≤ n) : Arr σ o m f := fun i hi => h i (by omega)
theorem Arr.row {σ τ : Mem} {o : Oid} {n : Nat} {f : Nat → Nat} (h : Arr σ o n f) (e : τ o = σ o) : Arr τ o n f := fun i hi => by rw [e]; exact h i hi
theorem Arr.congr {σ : Mem} {o : Oid} {n : Nat} {f g : Nat → Nat} (h : Arr σ o n f) (e : ∀ i, i < n → f i = g i) : Arr σ o n g := fun i hi => by rw [h i hi, e i hi]
theorem Arr.set {σ : Mem} {o : Oid} {n k : Nat} {f : Nat → Nat} (h : Arr σ o n f) (x : Nat) : Arr (mup σ o k (nI x)) o n (fun i => if i = k then x else f i) := fun i hi => by
  rw [mup_at]
  by_cases hk : i = k
  · rw [if_pos hk]; simp only [hk, if_true]
  · rw [if_neg hk, h i hi]; simp only [hk, if_false]
theorem Arr.push {σ : Mem} {o : Oid} {n : Nat} {f : Nat → Nat} (h : Arr σ o n f) : Arr (mup σ o n (nI (f n))) o (n + 1) f := fun i hi => by
  rw [mup_at]
  by_cases hk : i = n
  · rw [if_pos hk, hk]
  · rw [if_neg hk, h i (by omega)]
theorem vin {n N : Nat} (h : n < N) (hN : N < 2 ^ 31) : vp_in (nI n) N ↔ True := ⟨fun _ => trivial, fun _ => vp_in_nI h hN⟩
