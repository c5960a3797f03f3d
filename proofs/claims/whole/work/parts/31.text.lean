/-! PART 31: the text: numbers, letters, orders (pure); both sides read a number and take a letter -/
section TX
variable (t : Nat → Nat) (n : Nat)
def isD (p : Nat) : Prop := p < n ∧ 48 ≤ t p ∧ t p ≤ 57
noncomputable def dge : Nat → Nat → Nat
  | 0, p => p
  | f + 1, p => @ite Nat (isD t n p) (Classical.propDecidable _) (dge f (p + 1)) p
/-- where the digits from p on end -/
noncomputable def dE (p : Nat) : Nat := dge t n n p
/-- the number of k digits from p on -/
def dV (p : Nat) : Nat → Nat
  | 0 => 0
  | k + 1 => 10 * dV p k + (t (p + k) - 48)
noncomputable def nV (p : Nat) : Nat := dV t p (dE t n p - p)
/-- a good number, from lo up to, but without, hi -/
def nOk (p lo hi : Nat) : Prop := p < dE t n p ∧ ¬ (p + 1 < dE t n p ∧ t p = 48) ∧ lo ≤ nV t n p ∧ nV t n p < hi
end TX
section TY
variable {t : Nat → Nat} {n : Nat}
theorem dge_spec : ∀ (f p : Nat), p ≤ dge t n f p ∧ (∀ q, p ≤ q → q < dge t n f p → isD t n q) ∧ (n ≤ p + f → ¬ isD t n (dge t n f p))
  | 0, p => ⟨Nat.le_refl _, fun q h1 h2 => absurd h1 (by show ¬ p ≤ q; have h3 : q < p := h2; omega), fun h z => absurd z.1 (by show ¬ p < n; omega)⟩
  | f + 1, p => by
    obtain ⟨a, b, c⟩ := dge_spec f (p + 1)
    by_cases h : isD t n p
    · have e : dge t n (f + 1) p = dge t n f (p + 1) := if_pos h
      rw [e]
      refine ⟨by omega, fun q h1 h2 => ?_, fun h3 => c (by omega)⟩
      by_cases hq : q = p
      · rw [hq]; exact h
      · exact b q (by omega) h2
    · have e : dge t n (f + 1) p = p := if_neg h
      rw [e]
      exact ⟨Nat.le_refl _, fun q h1 h2 => absurd h1 (by omega), fun _ => h⟩
theorem dE_ge (p : Nat) : p ≤ dE t n p := (dge_spec n p).1
theorem dE_in {p q : Nat} (h1 : p ≤ q) (h2 : q < dE t n p) : isD t n q := (dge_spec n p).2.1 q h1 h2
theorem dE_out (p : Nat) : ¬ isD t n (dE t n p) := (dge_spec n p).2.2 (by omega)
theorem dE_le {p : Nat} (hp : p ≤ n) : dE t n p ≤ n := by
  rcases Nat.lt_or_ge (dE t n p) (n + 1) with q | q
  · omega
  · have := (dE_in (t := t) (n := n) (p := p) (q := n) hp (by omega)).1
    omega
/-- k digits from p on are digits, and behind them is none: that is the end -/
theorem dE_eq {p k : Nat} (h1 : p + k ≤ dE t n p) (h2 : ¬ isD t n (p + k)) : dE t n p = p + k := by
  rcases Nat.lt_or_ge (p + k) (dE t n p) with q | q
  · exact absurd (dE_in (by omega) q) h2
  · omega
-- what both sides keep of the text
/-- the class's text: at place p, with so many orders, without a fault -/
def TX (σ : Mem) (n : Nat) (t : Nat → Nat) (p c : Nat) : Prop := σ (5, 0, 0) 1 = -105 ∧ σ (5, 0, 0) 4 = nI p ∧ σ (5, 0, 0) 2 = nI c ∧ σ (5, 0, 0) 0 = nI n ∧ ∀ i, i < n → σ (6, 0, 0) i = nI (t i)
/-- with a fault -/
def TF (σ : Mem) (n f : Nat) : Prop := σ (5, 0, 0) 1 = nI f ∧ σ (5, 0, 0) 0 = nI n
def TM (ρ : Mem) (n : Nat) (t : Nat → Nat) (p : Nat) : Prop := ρ (0, 0, 0) 10 = nI p ∧ ρ (0, 0, 0) 5 = nI n ∧ ∀ i, i < n → ρ (5, 0, 0) i = nI (t i)
theorem TX.mv {σ : Mem} {p c : Nat} (h : TX σ n t p c) (q : Nat) : TX (mup σ (5, 0, 0) 4 (nI q)) n t q c := by
  obtain ⟨h1, h2, h3, h4, h5⟩ := h
  refine ⟨?_, mup_same _ _ _ _, ?_, ?_, fun i hi => ?_⟩
  · rw [mup_other _ _ _ (by decide)]; exact h1
  · rw [mup_other _ _ _ (by decide)]; exact h3
  · rw [mup_other _ _ _ (by decide)]; exact h4
  · rw [mup_ne _ _ _ (by decide)]; exact h5 i hi
theorem TX.ft {σ : Mem} {p c : Nat} (h : TX σ n t p c) (f : Nat) : TF (mup σ (5, 0, 0) 1 (nI f)) n f := ⟨mup_same _ _ _ _, by rw [mup_other _ _ _ (by decide)]; exact h.2.2.2.1⟩
theorem TM.mv {ρ : Mem} {p : Nat} (h : TM ρ n t p) (q : Nat) : TM (mup ρ (0, 0, 0) 10 (nI q)) n t q := by
  obtain ⟨h2, h4, h5⟩ := h
  refine ⟨mup_same _ _ _ _, ?_, fun i hi => ?_⟩
  · rw [mup_other _ _ _ (by decide)]; exact h4
  · rw [mup_ne _ _ _ (by decide)]; exact h5 i hi
theorem TM.row {ρ ρ' : Mem} {p : Nat} (h : TM ρ n t p) (e0 : ρ' (0, 0, 0) = ρ (0, 0, 0)) (e5 : ρ' (5, 0, 0) = ρ (5, 0, 0)) : TM ρ' n t p := by
  obtain ⟨h2, h4, h5⟩ := h
  exact ⟨by rw [e0]; exact h2, by rw [e0]; exact h4, fun i hi => by rw [e5]; exact h5 i hi⟩
def Tb (n : Nat) (t : Nat → Nat) : Prop := n ≤ 100 ∧ ∀ i, i < n → t i ≤ 127
-- letters
theorem C_letter {σ : Mem} {p c : Nat} {Q : Int32 → Mem → Prop} (hb : Tb n t) (hp : p ≤ n) (h : TX σ n t p c) (h1 : p < n → Q (nI (t p)) σ) (h0 : n ≤ p → Q 0 σ) : J_X3_letterHere σ Q := by
  obtain ⟨g1, g2⟩ := hb
  obtain ⟨a1, a2, a3, a4, a5⟩ := h
  unfold J_X3_letterHere
  rw [a4, a2]
  refine br_le (by omega) (by omega) h0 (fun q => ⟨vp_in_nI (by omega) (by decide), ?_⟩)
  rw [nI_clamp (by omega), a5 p q]
  exact h1 q
theorem R_here {ρ : Mem} {p : Nat} {Q : Int32 → Mem → Prop} (hb : Tb n t) (hp : p ≤ n) (h : TM ρ n t p) (h1 : p < n → Q (nI (t p)) ρ) (h0 : n ≤ p → Q (-1) ρ) : J_X6_here ρ Q := by
  obtain ⟨g1, g2⟩ := hb
  obtain ⟨a2, a4, a5⟩ := h
  unfold J_X6_here
  rw [a4, a2]
  refine br_le (by omega) (by omega) h0 (fun q => ⟨vp_in_nI (by omega) (by decide), ?_⟩)
  rw [nI_clamp (by omega), a5 p q]
  exact h1 q
theorem C_digit {σ : Mem} {p c : Nat} {Q : Int32 → Mem → Prop} (hb : Tb n t) (hp : p ≤ n) (h : TX σ n t p c) (h1 : isD t n p → Q 1 σ) (h0 : ¬ isD t n p → Q 0 σ) : J_X3_isDigitHere σ Q := by
  unfold J_X3_isDigitHere
  refine C_letter hb hp h (fun q => ?_) (fun q => i1 (by decide) (h0 (fun z => absurd z.1 (by omega))))
  have hb1 := hb.2 p q
  rw [fa_lit 48]
  refine br_lt (by omega) (by omega) (fun z => h0 (fun w => absurd w.2.1 (by omega))) (fun z => C_letter hb hp h (fun _ => ?_) (fun q' => absurd q (by omega)))
  rw [fa_lit 57]
  exact br_lt (by omega) (by omega) (fun z' => h0 (fun w => absurd w.2.2 (by omega))) (fun z' => h1 ⟨q, z, z'⟩)
theorem dV_succ (p k : Nat) : dV t p (k + 1) = 10 * dV t p k + (t (p + k) - 48) := rfl
theorem inD {m lo hi : Nat} {A B : Prop} (hm : m < 2 ^ 30) (hlo : lo < 2 ^ 30) (hhi : hi < 2 ^ 30) (h1 : lo ≤ m → m < hi → B) (h0 : ¬ (lo ≤ m ∧ m < hi) → A) : (nI m < nI lo → A) ∧ (¬ nI m < nI lo → ((dI hi < nI m → A) ∧ (¬ dI hi < nI m → B))) := by
  refine br_lt (by omega) (by omega) (fun h => h0 (by omega)) (fun h => ⟨fun q => ?_, fun q => ?_⟩)
  · rw [dI_lt hhi hm] at q
    exact h0 (by omega)
  · rw [dI_lt hhi hm] at q
    exact h1 h (by omega)
theorem m105_ne {f : Nat} (hf : f < 2 ^ 31) : ¬ nI f = -105 := by
  intro z
  have := congrArg Int32.toInt z
  rw [nI_toInt hf] at this
  have h2 : (-105 : Int32).toInt = -105 := by decide
  rw [h2] at this
  omega
-- a number in the class
theorem C_number {σ : Mem} {p c lo hi : Nat} {x1 x2 : Int32} {Q : Int32 → Mem → Prop} (hb : Tb n t) (hp : p ≤ n) (h : TX σ n t p c) (e1 : x1 = nI lo) (e2 : x2 = dI hi) (hlo : lo < 2 ^ 30) (hhi : hi ≤ 10000)
    (h1 : nOk t n p lo hi → ∀ σ' : Mem, (∀ o : Oid, o ≠ (5, 0, 0) → σ' o = σ o) → TX σ' n t (dE t n p) c → Q (nI (nV t n p)) σ')
    (h0 : ¬ nOk t n p lo hi → ∀ σ' : Mem, (∀ o : Oid, o ≠ (5, 0, 0) → σ' o = σ o) → TF σ' n p → Q 0 σ') : J_X3_number x1 x2 σ Q := by
  subst e1 e2
  have hn := hb.1
  have hE1 := dE_ge (t := t) (n := n) p
  have hE2 := dE_le (t := t) (n := n) hp
  have fin : ∀ τ : Mem, (∀ o : Oid, o ≠ (5, 0, 0) → τ o = σ o) → TX τ n t (dE t n p) c → J_X3_number_b71 (nI lo) (dI hi) (nI lo) (dI hi) (nI p) (nI (min (nV t n p) 10000)) τ Q := by
    intro τ hf hT
    have flt : ¬ nOk t n p lo hi → ∀ x : Int32, x = nI p → ∀ τ7 : Mem, τ7 = mup τ (5, 0, 0) 1 x → Q 0 τ7 := by
      rintro hno _ rfl _ rfl
      exact h0 hno _ (fun o ho => by rw [mup_ne _ _ _ ho]; exact hf o ho) (hT.ft p)
    have b97 : ∀ t0 : Int32, (t0 = 0 ∧ ¬ (p + 1 < dE t n p ∧ t p = 48) ∨ t0 = 1 ∧ (p + 1 < dE t n p ∧ t p = 48)) → J_X3_number_b97 (nI lo) (dI hi) (nI lo) (dI hi) (nI p) (nI (min (nV t n p) 10000)) t0 τ Q := by
      intro t0 ht
      unfold J_X3_number_b97
      rw [hT.2.1]
      refine br_eq (by omega) (by omega) (fun z => flt (fun w => absurd w.1 (by omega)) _ rfl) (fun z => ?_)
      rcases ht with ⟨rfl, hz⟩ | ⟨rfl, hz⟩
      · refine y0 ?_
        refine inD (by omega) hlo (by omega) (fun q1 q2 => y1 ?_) (fun q => y0 (flt (fun w => q ⟨?_, ?_⟩) _ rfl))
        · have e : min (nV t n p) 10000 = nV t n p := by omega
          rw [e]
          exact h1 ⟨by omega, hz, by omega, by omega⟩ τ hf hT
        · have := w.2.2.1
          have := w.2.2.2
          omega
        · have := w.2.2.2
          omega
      · exact y1 (flt (fun w => w.2.1 hz) _ rfl)
    unfold J_X3_number_b71
    rw [hT.2.1, nI_1]
    refine br_le (by omega) (by omega) (fun z => b97 0 (Or.inl ⟨rfl, fun w => absurd w.1 (by omega)⟩)) (fun z => ⟨vp_in_nI (by omega) (by decide), ?_⟩)
    have hb1 := hb.2 p (by omega)
    rw [nI_clamp (by omega), hT.2.2.2.2 p (by omega), fa_lit 48]
    refine br_ne (by omega) (by omega) (fun w => b97 1 (Or.inr ⟨rfl, z, w⟩)) (fun w => b97 0 (Or.inl ⟨rfl, fun q => w q.2⟩))
  unfold J_X3_number
  refine i1 h.1 ?_
  rw [h.2.1]
  rintro _ rfl
  refine ⟨fun x τ => ∃ k, p + k ≤ dE t n p ∧ x = nI (min (dV t p k) 10000) ∧ (∀ o : Oid, o ≠ (5, 0, 0) → τ o = σ o) ∧ TX τ n t (p + k) c, fun _ τ => 200 - (τ (5, 0, 0) 4).toNatClampNeg, ⟨0, hE1, rfl, fun _ _ => rfl, h⟩, ?_⟩
  rintro x τ3 ⟨k, hk, rfl, hf, hT⟩
  have stop : ¬ isD t n (p + k) → J_X3_number_b71 (nI lo) (dI hi) (nI lo) (dI hi) (nI p) (nI (min (dV t p k) 10000)) τ3 Q := by
    intro hno
    have e := dE_eq hk hno
    have ev : nV t n p = dV t p k := by unfold nV; rw [e, Nat.add_sub_cancel_left]
    rw [← ev]
    exact fin τ3 hf (by rw [e]; exact hT)
  rw [hT.2.2.2.1, hT.2.1]
  refine br_le (by omega) (by omega) (fun z => stop (fun w => absurd w.1 (by omega))) (fun z => ?_)
  refine C_digit hb (by omega) hT (fun q => z1 (C_letter hb (by omega) hT (fun _ => ?_) (fun w => absurd z (by omega)))) (fun q => z0 (stop q))
  have hb1 := hb.2 (p + k) z
  have q1 := q.2.1
  rw [fa_lit 10, fa_lit 48, fa_lit 10000, pk_mul, nI_add, pk_sub (by omega)]
  have em : (if nI 10000 < nI (10 * min (dV t p k) 10000 + t (p + k) - 48) then nI 10000 else nI (10 * min (dV t p k) 10000 + t (p + k) - 48)) = nI (min (dV t p (k + 1)) 10000) := by
    have e := dV_succ (t := t) p k
    by_cases w : 10000 < 10 * min (dV t p k) 10000 + t (p + k) - 48
    · rw [if_pos ((nI_ltI (by omega) (by omega)).mpr w)]
      rw [show min (dV t p (k + 1)) 10000 = 10000 by omega]
    · rw [if_neg (fun v => w ((nI_ltI (by omega) (by omega)).mp v))]
      rw [show min (dV t p (k + 1)) 10000 = 10 * min (dV t p k) 10000 + t (p + k) - 48 by omega]
  rw [em, hT.2.1, nI_1]
  rintro _ rfl _ rfl
  refine ⟨⟨k + 1, ?_, rfl, fun o ho => by rw [mup_ne _ _ _ ho]; exact hf o ho, hT.mv _⟩, ?_⟩
  · rcases Nat.lt_or_ge (p + k) (dE t n p) with w | w
    · omega
    · have : p + k = dE t n p := by omega
      rw [this] at q
      exact absurd q (dE_out p)
  · show 200 - (mup τ3 (5, 0, 0) 4 (nI (p + k + 1)) (5, 0, 0) 4).toNatClampNeg < 200 - (τ3 (5, 0, 0) 4).toNatClampNeg
    rw [mup_same, hT.2.1, nI_clamp (by omega), nI_clamp (by omega)]
    omega
-- a number in the reference
theorem R_number {ρ : Mem} {p lo hi w : Nat} {x1 x2 x3 : Int32} {Q : Int32 → Mem → Prop} (hb : Tb n t) (hp : p ≤ n) (h : TM ρ n t p) (hw : w < 3) (ew : x1 = nI w) (e1 : x2 = nI lo) (e2 : x3 = dI hi) (hlo : lo < 2 ^ 30) (hhi : hi ≤ 10000)
    (h1 : nOk t n p lo hi → ∀ ρ' : Mem, (∀ o : Oid, o ≠ (0, 0, 0) → o ≠ (10, 0, 0) → ρ' o = ρ o) → TM ρ' n t (dE t n p) → ρ' (10, 0, 0) w = nI (nV t n p) → (∀ i, i ≠ w → ρ' (10, 0, 0) i = ρ (10, 0, 0) i) → Q 1 ρ')
    (h0 : ¬ nOk t n p lo hi → ∀ ρ' : Mem, (∀ o : Oid, o ≠ (0, 0, 0) → o ≠ (10, 0, 0) → ρ' o = ρ o) → TM ρ' n t p → Q 0 ρ') : J_X6_number x1 x2 x3 ρ Q := by
  subst ew e1 e2
  have hn := hb.1
  have hE1 := dE_ge (t := t) (n := n) p
  have hE2 := dE_le (t := t) (n := n) hp
  have bad : ∀ (r : Int32) (τ : Mem), (∀ o : Oid, o ≠ (0, 0, 0) → τ o = ρ o) → TM τ n t (dE t n p) → ¬ nOk t n p lo hi → J_X6_number_b110 (nI w) (nI lo) (dI hi) (nI w) (nI p) r 0 τ Q := by
    intro r τ hf hT hno
    unfold J_X6_number_b110
    rw [nI_clamp (by omega)]
    refine z0 ?_
    rintro _ rfl
    refine ⟨vp_in_nI hw (by decide), ?_⟩
    rintro _ rfl
    refine ⟨Or.inl rfl, h0 hno _ (fun o q1 q2 => by rw [mup_ne _ _ _ q2, mup_ne _ _ _ q1]; exact hf o q1) ?_⟩
    exact (hT.mv p).row (mup_ne _ _ _ (by decide)) (mup_ne _ _ _ (by decide))
  have b95 : ∀ (r : Nat) (τ : Mem), r < 2 ^ 30 → (∀ o : Oid, o ≠ (0, 0, 0) → τ o = ρ o) → TM τ n t (dE t n p) → p < dE t n p → ¬ (p + 1 < dE t n p ∧ t p = 48) → (r = nV t n p ∨ 100000 ≤ r ∧ 100000 ≤ nV t n p) → J_X6_number_b95 (nI w) (nI lo) (dI hi) (nI w) (nI lo) (dI hi) (nI p) (nI r) τ Q := by
    intro r τ hr hf hT q1 q2 q3
    unfold J_X6_number_b95
    refine inD hr hlo (by omega) (fun z1' z2 => z1 ?_) (fun z => z0 (bad _ τ hf hT (fun ok => z ?_)))
    · have er : r = nV t n p := by omega
      unfold J_X6_number_b110
      rw [nI_clamp (by omega), hT.1]
      refine z1 ?_
      rintro _ rfl
      refine ⟨vp_in_nI hw (by decide), ?_⟩
      rintro _ rfl
      refine ⟨Or.inr rfl, h1 ⟨q1, q2, by omega, by omega⟩ _ (fun o q1 q2 => by rw [mup_ne _ _ _ q2, mup_ne _ _ _ q1]; exact hf o q1) ?_ ?_ (fun i hi => ?_)⟩
      · exact (hT.mv _).row (mup_ne _ _ _ (by decide)) (mup_ne _ _ _ (by decide))
      · rw [mup_same, er]
      · rw [mup_other _ _ _ hi, mup_ne _ _ _ (by decide), hf _ (by decide)]
    · have := ok.2.2.1
      have := ok.2.2.2
      omega
  unfold J_X6_number
  rw [h.1]
  rintro _ rfl
  refine ⟨fun x τ => ∃ k r, p + k ≤ dE t n p ∧ x = nI r ∧ r < 1000000 ∧ (r = dV t p k ∨ 100000 ≤ r ∧ 100000 ≤ dV t p k) ∧ (∀ o : Oid, o ≠ (0, 0, 0) → τ o = ρ o) ∧ TM τ n t (p + k), fun _ τ => 200 - (τ (0, 0, 0) 10).toNatClampNeg, ⟨0, 0, hE1, rfl, by decide, Or.inl rfl, fun _ _ => rfl, h⟩, ?_⟩
  rintro x τ2 ⟨k, r, hk, rfl, hr, hrv, hf, hT⟩
  have stop : ¬ isD t n (p + k) → (((τ2 (0, 0, 0) 10) ≤ nI p → J_X6_number_b110 (nI w) (nI lo) (dI hi) (nI w) (nI p) (nI r) 0 τ2 Q) ∧ (¬ (τ2 (0, 0, 0) 10) ≤ nI p → vp_in (nI p) 100 ∧ ((¬ (τ2 (5, 0, 0) (nI p).toNatClampNeg) = 48 → J_X6_number_b95 (nI w) (nI lo) (dI hi) (nI w) (nI lo) (dI hi) (nI p) (nI r) τ2 Q) ∧ ((τ2 (5, 0, 0) (nI p).toNatClampNeg) = 48 → ((¬ (τ2 (0, 0, 0) 10) = (nI p + 1) → J_X6_number_b110 (nI w) (nI lo) (dI hi) (nI w) (nI p) (nI r) 0 τ2 Q) ∧ ((τ2 (0, 0, 0) 10) = (nI p + 1) → J_X6_number_b95 (nI w) (nI lo) (dI hi) (nI w) (nI lo) (dI hi) (nI p) (nI r) τ2 Q)))))) := by
    intro hno
    have e := dE_eq hk hno
    have ev : nV t n p = dV t p k := by unfold nV; rw [e, Nat.add_sub_cancel_left]
    rw [← ev] at hrv
    rw [← e] at hT
    rw [hT.1, nI_1, nI_clamp (by omega)]
    refine br_le (by omega) (by omega) (fun z => bad _ τ2 hf hT (fun ok => absurd ok.1 (by omega))) (fun z => ⟨vp_in_nI (by omega) (by decide), ?_⟩)
    have hb1 := hb.2 p (by omega)
    rw [hT.2.2 p (by omega), fa_lit 48]
    refine br_ne (by omega) (by omega) (fun q => ?_) (fun q => b95 r τ2 (by omega) hf hT z (fun w => q w.2) hrv)
    refine br_ne (by omega) (by omega) (fun q' => b95 r τ2 (by omega) hf hT z (fun w => absurd w.1 (by omega)) hrv) (fun q' => bad _ τ2 hf hT (fun ok => ok.2.1 ⟨by omega, q⟩))
  have dg : isD t n (p + k) → J_X6_here τ2 (fun r23 τ23 => ∀ x5_24 : Int32, x5_24 = ((10 * nI r) + r23) - 48 → ∀ τ25 : Mem, τ25 = mup τ23 (0, 0, 0) 10 ((τ23 (0, 0, 0) 10) + 1) → (∃ k' r', p + k' ≤ dE t n p ∧ x5_24 = nI r' ∧ r' < 1000000 ∧ (r' = dV t p k' ∨ 100000 ≤ r' ∧ 100000 ≤ dV t p k') ∧ (∀ o : Oid, o ≠ (0, 0, 0) → τ25 o = ρ o) ∧ TM τ25 n t (p + k')) ∧ 200 - (τ25 (0, 0, 0) 10).toNatClampNeg < 200 - (τ2 (0, 0, 0) 10).toNatClampNeg) → True := fun _ _ => trivial
  have hk1 : isD t n (p + k) → p + (k + 1) ≤ dE t n p := by
    intro q
    rcases Nat.lt_or_ge (p + k) (dE t n p) with z | z
    · omega
    · have : p + k = dE t n p := by omega
      rw [this] at q
      exact absurd q (dE_out p)
  have hμ : isD t n (p + k) → 200 - (mup τ2 (0, 0, 0) 10 (nI (p + k + 1)) (0, 0, 0) 10).toNatClampNeg < 200 - (τ2 (0, 0, 0) 10).toNatClampNeg := by
    intro q
    have := q.1
    rw [mup_same, hT.1, nI_clamp (by omega), nI_clamp (by omega)]
    omega
  have hfn : ∀ o : Oid, o ≠ (0, 0, 0) → mup τ2 (0, 0, 0) 10 (nI (p + k + 1)) o = ρ o := fun o ho => by rw [mup_ne _ _ _ ho]; exact hf o ho
  have es := dV_succ (t := t) p k
  refine R_here hb (by omega) hT (fun z => ?_) (fun z => ?_)
  · have hb1 := hb.2 (p + k) z
    rw [fa_lit 48, fa_lit 57]
    refine R_in (fun q => ?_) (fun q1 q2 => ?_)
    · refine z0 (stop (fun w => ?_))
      have w1 := w.2.1
      have w2 := w.2.2
      rcases q with q | q
      · rw [nI_ltI (by omega) (by omega)] at q
        omega
      · rw [nI_ltI (by omega) (by omega)] at q
        omega
    · rw [nI_ltI (by omega) (by omega)] at q1 q2
      have q : isD t n (p + k) := ⟨z, by omega, by omega⟩
      refine z1 ?_
      rw [fa_lit 100000]
      refine br_le (by omega) (by omega) (fun v => ?_) (fun v => R_here hb (by omega) hT (fun _ => ?_) (fun v' => absurd z (by omega)))
      · rw [hT.1, nI_1]
        rintro _ rfl
        exact ⟨⟨k + 1, r, hk1 q, rfl, hr, Or.inr ⟨v, by omega⟩, hfn, hT.mv _⟩, hμ q⟩
      · rw [fa_lit 10, pk_mul, nI_add, pk_sub (by omega), hT.1, nI_1]
        rintro _ rfl _ rfl
        exact ⟨⟨k + 1, _, hk1 q, rfl, by omega, by omega, hfn, hT.mv _⟩, hμ q⟩
  · refine R_in (fun q => z0 (stop (fun w => absurd w.1 (by omega)))) (fun q1 _ => absurd (by decide) q1)
theorem C_number_F {σ : Mem} {f : Nat} {lo hi : Int32} {Q : Int32 → Mem → Prop} (h : TF σ n f) (hf : f < 2 ^ 31) (q : Q 0 σ) : J_X3_number lo hi σ Q := by
  unfold J_X3_number
  rw [h.1]
  refine i0 ?_ q
  intro z
  have := congrArg Int32.toInt z
  rw [nI_toInt hf] at this
  have h2 : (-105 : Int32).toInt = -105 := by decide
  rw [h2] at this
  omega
theorem C_pass_F {σ : Mem} {f : Nat} {x : Int32} {Q : Mem → Prop} (h : TF σ n f) (hf : f < 2 ^ 31) (q : Q σ) : J_X3_pass x σ Q := by
  unfold J_X3_pass
  rw [h.1]
  refine i0 ?_ q
  intro z
  have := congrArg Int32.toInt z
  rw [nI_toInt hf] at this
  have h2 : (-105 : Int32).toInt = -105 := by decide
  rw [h2] at this
  omega
def tk (t : Nat → Nat) (n p x : Nat) : Prop := p < n ∧ t p = x
theorem C_pass {σ : Mem} {p c x : Nat} {Q : Mem → Prop} (hb : Tb n t) (hp : p ≤ n) (hx : 0 < x ∧ x < 128) (h : TX σ n t p c)
    (h1 : tk t n p x → ∀ σ' : Mem, (∀ o : Oid, o ≠ (5, 0, 0) → σ' o = σ o) → TX σ' n t (p + 1) c → Q σ')
    (h0 : ¬ tk t n p x → ∀ σ' : Mem, (∀ o : Oid, o ≠ (5, 0, 0) → σ' o = σ o) → TF σ' n p → Q σ') : J_X3_pass (nI x) σ Q := by
  have fr : ∀ (k : Nat) (y : Int32) (o : Oid), o ≠ (5, 0, 0) → mup σ (5, 0, 0) k y o = σ o := fun k y o ho => mup_ne _ _ _ ho
  unfold J_X3_pass
  refine i1 h.1 (C_letter hb hp h (fun q => ?_) (fun q => ?_))
  · have hb1 := hb.2 p q
    have hn := hb.1
    rw [h.2.1, nI_1]
    refine br_ne (by omega) (by omega) (fun z => ?_) (fun z => ?_)
    · rintro _ rfl
      exact h1 ⟨q, z⟩ _ (fr _ _) (h.mv (p + 1))
    · rintro _ rfl
      exact h0 (fun w => z w.2) _ (fr _ _) (h.ft p)
  · rw [h.2.1, fa_lit 0]
    refine br_ne (by omega) (by omega) (fun z => absurd z (by omega)) (fun z => ?_)
    rintro _ rfl
    exact h0 (fun w => absurd w.1 (by omega)) _ (fr _ _) (h.ft p)
theorem R_takes {ρ : Mem} {p x : Nat} {Q : Int32 → Mem → Prop} (hb : Tb n t) (hp : p ≤ n) (hx : 0 < x ∧ x < 128) (h : TM ρ n t p)
    (h1 : tk t n p x → ∀ ρ' : Mem, (∀ o : Oid, o ≠ (0, 0, 0) → ρ' o = ρ o) → TM ρ' n t (p + 1) → Q 1 ρ')
    (h0 : ¬ tk t n p x → ∀ ρ' : Mem, (∀ o : Oid, o ≠ (0, 0, 0) → ρ' o = ρ o) → TM ρ' n t p → Q 0 ρ') : J_X6_takes (nI x) ρ Q := by
  have fr : ∀ (k : Nat) (y : Int32) (o : Oid), o ≠ (0, 0, 0) → mup ρ (0, 0, 0) k y o = ρ o := fun k y o ho => mup_ne _ _ _ ho
  have hn := hb.1
  have no : ¬ tk t n p x → J_X6_takes_b13 (nI x) 0 ρ Q := by
    intro hno
    unfold J_X6_takes_b13
    refine z0 ?_
    rw [h.1, fa_lit 0, nI_add]
    rintro _ rfl
    exact ⟨Or.inl rfl, h0 hno _ (fr _ _) (h.mv p)⟩
  unfold J_X6_takes
  refine R_here hb hp h (fun q => ?_) (fun q => ?_)
  · have hb1 := hb.2 p q
    refine br_ne (by omega) (by omega) (fun z => ?_) (fun z => no (fun w => z w.2))
    unfold J_X6_takes_b13
    refine z1 ?_
    rw [h.1, nI_1]
    rintro _ rfl
    exact ⟨Or.inr rfl, h1 ⟨q, z⟩ _ (fr _ _) (h.mv (p + 1))⟩
  · refine k1 ?_ (no (fun w => absurd w.1 (by omega)))
    intro z
    have := congrArg Int32.toInt z
    rw [nI_toInt (by omega)] at this
    have h2 : (-1 : Int32).toInt = -1 := by decide
    rw [h2] at this
    omega
end TY
