/-! PART 34: loops of the law; a cell of the script; what the law's arrays hold -/
theorem lq3 {B : (Int32 → Int32 → Int32 → Mem → Prop) → (Int32 → Int32 → Int32 → Mem → Nat) → Int32 → Int32 → Int32 → Mem → Prop} {x0 y0 : Int32} {τ0 : Mem} (n : Nat) (hn : n < 2 ^ 30) (P : Nat → Int32 → Int32 → Mem → Prop) (h0 : P 0 x0 y0 τ0) (hB : ∀ (k : Nat) (x y : Int32) (τ : Mem) (I : Int32 → Int32 → Int32 → Mem → Prop) (μ : Int32 → Int32 → Int32 → Mem → Nat), k ≤ n → P k x y τ → (k < n → ∀ (x' y' : Int32) (τ' : Mem), P (k + 1) x' y' τ' → I x' y' (nI (k + 1)) τ' ∧ μ x' y' (nI (k + 1)) τ' < μ x y (nI k) τ) → B I μ x y (nI k) τ) : ∃ (I : Int32 → Int32 → Int32 → Mem → Prop) (μ : Int32 → Int32 → Int32 → Mem → Nat), I x0 y0 0 τ0 ∧ ∀ (x y z : Int32) (τ : Mem), I x y z τ → B I μ x y z τ := by
  refine ⟨fun x y z τ => ∃ k, k ≤ n ∧ z = nI k ∧ P k x y τ, fun _ _ z _ => n - z.toNatClampNeg, ⟨0, Nat.zero_le _, rfl, h0⟩, ?_⟩
  rintro x y z τ ⟨k, hk, rfl, hP⟩
  refine hB k x y τ _ _ hk hP (fun hlt x' y' τ' hP' => ⟨⟨k + 1, hlt, rfl, hP'⟩, ?_⟩)
  show n - (nI (k + 1)).toNatClampNeg < n - (nI k).toNatClampNeg
  rw [nI_clamp (by omega), nI_clamp (by omega)]
  omega
theorem lpAMf {B : (Int32 → Int32 → Mem → Prop) → (Int32 → Int32 → Mem → Nat) → Int32 → Int32 → Mem → Prop} {y0 x0 : Int32} {τ0 : Mem} (i0 n : Nat) (hx : x0 = nI i0) (hi : i0 ≤ n) (hn : n < 2 ^ 30) (P : Nat → Int32 → Mem → Prop) (h0 : P i0 y0 τ0) (hB : ∀ (k : Nat) (y : Int32) (τ : Mem) (I : Int32 → Int32 → Mem → Prop) (μ : Int32 → Int32 → Mem → Nat), i0 ≤ k → k ≤ n → P k y τ → (k < n → ∀ (y' : Int32) (τ' : Mem), P (k + 1) y' τ' → I y' (nI (k + 1)) τ' ∧ μ y' (nI (k + 1)) τ' < μ y (nI k) τ) → B I μ y (nI k) τ) : ∃ (I : Int32 → Int32 → Mem → Prop) (μ : Int32 → Int32 → Mem → Nat), I y0 x0 τ0 ∧ ∀ (y x : Int32) (τ : Mem), I y x τ → B I μ y x τ := by
  refine ⟨fun y x τ => ∃ k, i0 ≤ k ∧ k ≤ n ∧ x = nI k ∧ P k y τ, fun _ x _ => n - x.toNatClampNeg, ⟨i0, Nat.le_refl _, hi, hx, h0⟩, ?_⟩
  rintro y x τ ⟨k, hk0, hk, rfl, hP⟩
  refine hB k y τ _ _ hk0 hk hP (fun hlt y' τ' hP' => ⟨⟨k + 1, by omega, hlt, rfl, hP'⟩, ?_⟩)
  show n - (nI (k + 1)).toNatClampNeg < n - (nI k).toNatClampNeg
  rw [nI_clamp (by omega), nI_clamp (by omega)]
  omega
theorem K_cell {L k : Nat} {xs : Nat → Int32} {σ : Mem} {Q : Int32 → Mem → Prop} (hL : L ≤ 260) (hk : k < 2 ^ 30) (hQ : ∀ y : Nat, y < 2 ^ 31 → Q (nI y) σ) : J_L_cell L xs (nI k) σ Q := by
  unfold J_L_cell
  have key : ∀ x : Int32, Q (x &&& 2147483647) σ := fun x => by
    obtain ⟨j, hj, e⟩ := pk_andE x (m := 2147483647) 31 (by decide)
    rw [e]
    exact hQ j hj
  refine ⟨fun _ => key _, fun h => ⟨?_, key _⟩⟩
  have h' : ¬ nI L ≤ nI k := h
  rw [nI_leI (by omega) (by omega)] at h'
  exact vp_in_nI (by omega) (by omega)
/-- a part of a cell -/
theorem shm {y : Nat} (hy : y < 2 ^ 31) (s : Int32) (k m : Nat) (hs : ((s &&& 31).toBitVec.smod 32).toNat = k) (h0 : 0 < m) (hm : m < 2 ^ 31) : (nI y >>> (s &&& 31) : Int32) - (nI y >>> (s &&& 31) : Int32) / nI m * nI m = nI (y / 2 ^ k % m) := by
  rw [pk_shrN hy (s &&& 31) k hs, pk_rem (Nat.lt_of_le_of_lt (Nat.div_le_self _ _) hy) h0 hm]
/-- what the law's arrays hold while it builds a district with N ditches, M users -/
def BW (E : Mem) (d : Dst) (N M w2 : Nat) : Prop := (E (18, 0, 0) 0 = nI N ∧ E (18, 0, 0) 1 = nI M ∧ E (18, 0, 0) 2 = nI w2 ∧ E (18, 0, 0) 3 = nI (d 3)) ∧ (1 ≤ N ∧ N ≤ 5 ∧ 1 ≤ M ∧ M ≤ 6 ∧ w2 ≤ 119) ∧ (∀ h, h < 24 → d (12 + h) = w2) ∧ (∀ k, k < d 1 → E (16, 0, 0) (3 * k + 1) = nI (d (50 + k)) ∧ E (16, 0, 0) (3 * k + 2) = nI (d (60 + k))) ∧ (∀ u, u < d 2 → E (17, 0, 0) (5 * u + 1) = nI (d (82 + u))) ∧ d 0 = 0 ∧ (∀ i, i < 7 → d (5 + i) = 0) ∧ (∀ u, u < d 2 → d (178 + u) = 0) ∧ d 1 ≤ N ∧ d 2 ≤ M
theorem BW.e16 {E : Mem} {d : Dst} {N M w2 j : Nat} {x : Int32} (h : BW E d N M w2) (hj : 3 * d 1 ≤ j) : BW (mup E (16, 0, 0) j x) d N M w2 := by
  obtain ⟨⟨a0, a1, a2, a3⟩, hb, hs, hd, hu, r⟩ := h
  have e8 : mup E (16, 0, 0) j x (18, 0, 0) = E (18, 0, 0) := mup_k _ _ _ (by decide)
  have e7 : mup E (16, 0, 0) j x (17, 0, 0) = E (17, 0, 0) := mup_k _ _ _ (by decide)
  refine ⟨⟨by rw [e8]; exact a0, by rw [e8]; exact a1, by rw [e8]; exact a2, by rw [e8]; exact a3⟩, hb, hs, fun k hk => ?_, fun u hq => by rw [e7]; exact hu u hq, r⟩
  rw [mup_at, mup_at, if_neg (by omega), if_neg (by omega)]
  exact hd k hk
theorem BW.e17 {E : Mem} {d : Dst} {N M w2 j : Nat} {x : Int32} (h : BW E d N M w2) (hj : 5 * d 2 ≤ j) : BW (mup E (17, 0, 0) j x) d N M w2 := by
  obtain ⟨⟨a0, a1, a2, a3⟩, hb, hs, hd, hu, r⟩ := h
  have e8 : mup E (17, 0, 0) j x (18, 0, 0) = E (18, 0, 0) := mup_k _ _ _ (by decide)
  have e6 : mup E (17, 0, 0) j x (16, 0, 0) = E (16, 0, 0) := mup_k _ _ _ (by decide)
  refine ⟨⟨by rw [e8]; exact a0, by rw [e8]; exact a1, by rw [e8]; exact a2, by rw [e8]; exact a3⟩, hb, hs, fun k hk => by rw [e6]; exact hd k hk, fun u hq => ?_, r⟩
  rw [mup_at, if_neg (by omega)]
  exact hu u hq
theorem BW.ditch {E : Mem} {d : Dst} {N M w2 p g l : Nat} (h : BW E d N M w2) (h1 : d 1 < N) (h2 : d 2 = 0) (hg : E (16, 0, 0) (3 * d 1 + 1) = nI g) (hl : E (16, 0, 0) (3 * d 1 + 2) = nI l) : BW E (addD d p g l) N M w2 := by
  obtain ⟨⟨a0, a1, a2, a3⟩, hb, hs, hd, hu, h0, hac, ht, hn1, hn2⟩ := h
  have e1 : addD d p g l 1 = d 1 + 1 := addD_1 _ _ _
  have e2 : addD d p g l 2 = d 2 := addD_ne (by omega) (by omega) (by omega) (by omega)
  obtain ⟨-, p1, p2⟩ := addD_p (d := d) p g l (by omega)
  refine ⟨⟨a0, a1, a2, by rw [addD_ne (by omega) (by omega) (by omega) (by omega)]; exact a3⟩, hb, fun h hh => by rw [addD_ne (by omega) (by omega) (by omega) (by omega)]; exact hs h hh, fun k hk => ?_, fun u hq => by rw [e2, h2] at hq; exact absurd hq (Nat.not_lt_zero _), by rw [addD_ne (by omega) (by omega) (by omega) (by omega)]; exact h0, fun i hi => by rw [addD_ne (by omega) (by omega) (by omega) (by omega)]; exact hac i hi, fun u hq => by rw [e2, h2] at hq; exact absurd hq (Nat.not_lt_zero _), by rw [e1]; omega, by rw [e2]; exact hn2⟩
  rw [e1] at hk
  by_cases q : k = d 1
  · rw [q, p1, p2]
    exact ⟨hg, hl⟩
  · rw [addD_ne (by omega) (by omega) (by omega) (by omega), addD_ne (by omega) (by omega) (by omega) (by omega)]
    exact hd k (by omega)
/-- a user more, with its field and its pond -/
def fldU (d : Dst) (u n : Nat) : Dst := du (du (du d (106 + u) n) (118 + u) 0) (130 + u) 24
def pndU (d : Dst) (u c : Nat) : Dst := du (du (du d (142 + u) c) (166 + u) 0) (154 + u) (min (d (154 + u)) c)
def newU (d : Dst) (a y r n c : Nat) : Dst := pndU (fldU (addU d a y r) (d 2) n) (d 2) c
theorem fldU_ne {d : Dst} {u n i : Nat} (h1 : i ≠ 106 + u) (h2 : i ≠ 118 + u) (h3 : i ≠ 130 + u) : fldU d u n i = d i := by
  unfold fldU
  rw [du_ne _ _ h3, du_ne _ _ h2, du_ne _ _ h1]
theorem pndU_ne {d : Dst} {u n i : Nat} (h1 : i ≠ 142 + u) (h2 : i ≠ 166 + u) (h3 : i ≠ 154 + u) : pndU d u n i = d i := by
  unfold pndU
  rw [du_ne _ _ h3, du_ne _ _ h2, du_ne _ _ h1]
theorem newU_lo {d : Dst} {a y r n c i : Nat} (h1 : i ≠ 2) (h2 : i < 70) : newU d a y r n c i = d i := by
  unfold newU
  rw [pndU_ne (by omega) (by omega) (by omega), fldU_ne (by omega) (by omega) (by omega)]
  exact addU_lo h1 h2
theorem newU_2 {d : Dst} {a y r n c : Nat} : newU d a y r n c 2 = d 2 + 1 := by
  unfold newU
  rw [pndU_ne (by omega) (by omega) (by omega), fldU_ne (by omega) (by omega) (by omega)]
  exact addU_2 _ _ _
theorem newU_f {d : Dst} {a y r n c f v : Nat} (hf : f = 1 ∨ f = 9) (hv : v < d 2) (hn : d 2 < 12) : newU d a y r n c (70 + 12 * f + v) = d (70 + 12 * f + v) := by
  unfold newU
  rw [pndU_ne (by omega) (by omega) (by omega), fldU_ne (by omega) (by omega) (by omega)]
  exact addU_old (by omega) hv hn
theorem newU_n {d : Dst} {a y r n c f : Nat} (hf : f = 1 ∨ f = 9) (hn : d 2 < 12) : newU d a y r n c (70 + 12 * f + d 2) = if f = 1 then y else 0 := by
  unfold newU
  rw [pndU_ne (by omega) (by omega) (by omega), fldU_ne (by omega) (by omega) (by omega), addU_new (by omega) hn]
  rcases hf with rfl | rfl <;> rfl
theorem BW.user {E : Mem} {d : Dst} {N M w2 a y r n c : Nat} (h : BW E d N M w2) (h2 : d 2 < M) (hy : E (17, 0, 0) (5 * d 2 + 1) = nI y) : BW E (newU d a y r n c) N M w2 := by
  obtain ⟨⟨a0, a1, a2, a3⟩, hb, hs, hd, hu, h0, hac, ht, hn1, hn2⟩ := h
  have e1 : newU d a y r n c 1 = d 1 := newU_lo (by omega) (by omega)
  have e2 : newU d a y r n c 2 = d 2 + 1 := newU_2
  refine ⟨⟨a0, a1, a2, by rw [newU_lo (by omega) (by omega)]; exact a3⟩, hb, fun h hh => by rw [newU_lo (by omega) (by omega)]; exact hs h hh, fun k hk => ?_, fun u hq => ?_, by rw [newU_lo (by omega) (by omega)]; exact h0, fun i hi => by rw [newU_lo (by omega) (by omega)]; exact hac i hi, fun u hq => ?_, by rw [e1]; exact hn1, by rw [e2]; omega⟩
  · rw [e1] at hk
    rw [newU_lo (by omega) (by omega), newU_lo (by omega) (by omega)]
    exact hd k hk
  · rw [e2] at hq
    by_cases q : u = d 2
    · have e : newU d a y r n c (82 + d 2) = y := newU_n (f := 1) (Or.inl rfl) (by omega)
      rw [q, e]
      exact hy
    · have e : newU d a y r n c (82 + u) = d (82 + u) := newU_f (f := 1) (Or.inl rfl) (by omega) (by omega)
      rw [e]
      exact hu u (by omega)
  · rw [e2] at hq
    by_cases q : u = d 2
    · have e : newU d a y r n c (178 + d 2) = 0 := newU_n (f := 9) (Or.inr rfl) (by omega)
      rw [q, e]
    · have e : newU d a y r n c (178 + u) = d (178 + u) := newU_f (f := 9) (Or.inr rfl) (by omega) (by omega)
      rw [e]
      exact ht u (by omega)
