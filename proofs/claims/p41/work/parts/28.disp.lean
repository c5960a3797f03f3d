/-! PART 28: disputes, what limits, the checksum -/
noncomputable def gnd (d : Dst) (o y : Nat) : Int32 := nI (amt (du d (202 + y) 1) o) - nI (amt d o)
noncomputable def jdd (d : Dst) (o y : Nat) : Int32 := @ite Int32 (ask d o ≤ amt d o) (Classical.propDecidable _) 0 (@ite Int32 (amt d y = 0) (Classical.propDecidable _) 0 (@ite Int32 (gnd d o y = 0) (Classical.propDecidable _) 1 (@ite Int32 (nI (d 4 * amt d y) ≤ 100 * gnd d o y) (Classical.propDecidable _) 2 1)))
section GJ
variable {T : Nat} {d : Dst}
theorem shut_inv (hI : Inv T d) {y : Nat} (hy : y < d 2) : Inv T (du d (202 + y) 1) := Inv.mk (hI.geo.s202 hy (Nat.le_refl _)) (hI.cnt.du hI.geo.nu (by omega))
theorem C_gainOf {σ : Mem} {o y : Nat} {Q : Int32 → Mem → Prop} (hI : Inv T d) (hv : RepX σ 0 d) (ho : o < d 2) (hy : y < d 2) (hQ : ∀ σ' : Mem, FrJ 1 σ σ' → Q (gnd d o y) σ') : J_X5_gainOf (nI o) (nI y) σ Q := by
  have g := hI.geo
  have hn := g.nu
  have hN := g.nd
  unfold J_X5_gainOf
  refine C_distribute hI hv (fun τ1 hf1 hv1 hF1 => ⟨vp_in_nI (by omega) (by decide), ?_⟩)
  rw [nI_clamp (by omega), hF1.2.1 o ho]
  rintro _ rfl
  refine C_copyFrom g (by decide) hv1 (fun τ4 hf4 hv4 => ⟨vp_in_nI (by omega) (by decide), ?_⟩)
  rw [nI_clamp (by omega)]
  rintro _ rfl
  have h6 : RepX _ 1 (du d (202 + y) 1) := hv4.setU (f := 11) hN hn hy (by decide) (by decide) 1
  have e2 : du d (202 + y) 1 2 = d 2 := du_ne _ _ (by omega)
  refine C_distribute (shut_inv hI hy) h6 (fun τ7 hf7 hv7 hF7 => ⟨vp_in_nI (by omega) (by decide), ?_⟩)
  rw [hF7.2.1 o (by rw [e2]; exact ho)]
  refine hQ τ7 (FrJ.tr (FrJ.tr (FrJ.of_fl hf1) (hf4.up (k := 14) (by decide) _ _).fj) (FrJ.of_fl hf7))
theorem C_judge {σ : Mem} {o y : Nat} {Q : Int32 → Mem → Prop} (hI : Inv T d) (hv : RepX σ 0 d) (ho : o < d 2) (hy : y < d 2) (hQ : ∀ σ' : Mem, FrJ 1 σ σ' → Q (jdd d o y) σ') : J_X5_judge (nI o) (nI y) σ Q := by
  have g := hI.geo
  have hn := g.nu
  have hok := amt_ok hI.1 g.2.2.2.2.2.2.2.2
  have hao := hok.2 o ho
  have hay := hok.2 y hy
  have hso := ask_le (hI.2.2.2.2.2.2.2.2.2.2.1 o ho)
  have hsy := ask_le (hI.2.2.2.2.2.2.2.2.2.2.1 y hy)
  unfold J_X5_judge
  refine C_distribute hI hv (fun τ1 hf1 hv1 hF1 => ⟨vp_in_nI (by omega) (by decide), ?_⟩)
  rw [nI_clamp (by omega), hF1.2.1 y hy]
  rintro _ rfl
  unfold J_X1_isContent
  rw [nI_clamp (by omega), hF1.2.1 o ho, hF1.1 o ho]
  refine ⟨vp_in_nI (by omega) (by decide), vp_in_nI (by omega) (by decide), ?_⟩
  unfold jdd at hQ
  refine br_ne (by omega) (by omega) (fun h => ?_) (fun h => ?_)
  · rw [if_pos (by omega)] at hQ
    exact y1 (hQ τ1 (FrJ.of_fl hf1))
  · rw [if_neg (by omega)] at hQ
    refine y0 ?_
    rw [fa_lit 0]
    refine br_ne (by omega) (by omega) (fun h2 => ?_) (fun h2 => ?_)
    · rw [if_pos h2] at hQ
      exact hQ τ1 (FrJ.of_fl hf1)
    · rw [if_neg h2] at hQ
      refine C_gainOf hI hv1 ho hy (fun τ7 hf7 => ?_)
      have hfr : FrJ 1 σ τ7 := (FrJ.of_fl hf1).tr hf7
      have e4 : τ7 (7, 0, 0) 8 = nI (d 4) := by rw [hf7 _ (by decide) (by decide) (by decide) (by decide)]; exact hv1.ft
      rw [e4, pk_mul]
      by_cases h3 : gnd d o y = 0
      · rw [if_pos h3] at hQ
        exact i1 h3 (hQ τ7 hfr)
      · rw [if_neg h3] at hQ
        refine i0 h3 ⟨fun h4 => ?_, fun h4 => ?_⟩
        · rw [if_pos h4] at hQ
          exact hQ τ7 hfr
        · rw [if_neg h4] at hQ
          exact hQ τ7 hfr
theorem i32_nlt {x y : Int32} (h : ¬ x < y) : y ≤ x := by
  rw [Int32.lt_iff_toInt_lt] at h
  rw [Int32.le_iff_toInt_le]
  omega
theorem i32_nle {x y : Int32} (h : x < y) : ¬ y ≤ x := by
  rw [Int32.lt_iff_toInt_lt] at h
  rw [Int32.le_iff_toInt_le]
  omega
theorem C_isYounger {σ : Mem} {j x y : Nat} {Q : Int32 → Mem → Prop} (hI : Inv T d) (hv : RepX σ j d) (hx : x < d 2) (hy : y < d 2) (h1 : older d y x → Q 1 σ) (h0 : ¬ older d y x → Q 0 σ) : J_X2_isYounger j (nI x) (nI y) σ Q := by
  have g := hI.geo
  have hn := g.nu
  have bx := (g.ug hx).1
  have bY := (g.ug hy).1
  unfold J_X2_isYounger
  rw [nI_clamp (by omega), nI_clamp (by omega), hv.u1 hx, hv.u1 hy]
  refine ⟨vp_in_nI (by omega) (by decide), ?_⟩
  rintro _ rfl
  refine ⟨vp_in_nI (by omega) (by decide), ?_⟩
  rintro _ rfl
  refine br_lt (by omega) (by omega) (fun h => h1 (Or.inl h)) (fun h => ?_)
  refine br_ne (by omega) (by omega) (fun h5 => ?_) (fun h5 => h0 (by rintro (z | z) <;> omega))
  refine br_le (by omega) (by omega) (fun h6 => h0 (by rintro (z | z) <;> omega)) (fun h6 => h1 (Or.inr ⟨h5.symm, h6⟩))
end GJ
section C5
variable {T : Nat} {σ ρ : Mem} {d : Dst} {b : Nat → Nat} {ds : Nat → Dst} {n : Nat} {t : Nat → Nat}
-- settle
noncomputable def stp (k r : Nat) (s : Dst × Nat) : Dst × Nat := @ite (Dst × Nat) (jdd s.1 (rkd s.1 k) (rkd s.1 r) = 2) (Classical.propDecidable _) (du s.1 (202 + rkd s.1 r) 1, s.2 + 1) s
noncomputable def inn (k : Nat) : Nat → Dst × Nat → Dst × Nat
  | 0, s => s
  | m + 1, s => if m ≤ k then s else inn k m (stp k m s)
noncomputable def outr (n : Nat) : Nat → Nat → Dst × Nat → Dst × Nat
  | 0, _, s => s
  | f + 1, k, s => outr n f (k + 1) (inn k n s)
theorem inn_le {k m : Nat} {s : Dst × Nat} (h : m ≤ k + 1) : inn k m s = s := by
  cases m with
  | zero => rfl
  | succ m => exact if_pos (by omega)
theorem inn_gt {k m : Nat} {s : Dst × Nat} (h : k < m) : inn k (m + 1) s = inn k m (stp k m s) := if_neg (by omega)
theorem du202 {m : Nat} (hn : d 2 ≤ 12) (h : m < d 2) : du d (202 + m) 1 2 = d 2 := du_ne _ _ (by omega)
theorem stp_inv {k m : Nat} {s : Dst × Nat} (hI : Inv T s.1) (hm : m < s.1 2) : Inv T (stp k m s).1 ∧ (stp k m s).1 2 = s.1 2 := by
  have g := hI.geo
  have hn := g.nu
  have a2 := (g.2.2.2.2.2.2.2.2 m hm).1
  unfold stp
  split
  · refine ⟨shut_inv hI a2, ?_⟩
    show du s.1 (202 + rkd s.1 m) 1 2 = _
    rw [du_ne _ _ (by omega)]
  · exact ⟨hI, rfl⟩
theorem inn_inv {k : Nat} : ∀ {m : Nat} {s : Dst × Nat}, Inv T s.1 → m ≤ s.1 2 → Inv T (inn k m s).1 ∧ (inn k m s).1 2 = s.1 2
  | 0, s, h, _ => ⟨h, rfl⟩
  | m + 1, s, h, hm => by
    by_cases q : m ≤ k
    · rw [inn_le (by omega)]
      exact ⟨h, rfl⟩
    · rw [inn_gt (by omega)]
      obtain ⟨a, b⟩ := stp_inv (k := k) h (by omega : m < s.1 2)
      obtain ⟨a', b'⟩ := inn_inv (k := k) (m := m) a (by omega)
      exact ⟨a', b'.trans b⟩
theorem outr_inv {n : Nat} : ∀ {f k : Nat} {s : Dst × Nat}, Inv T s.1 → s.1 2 = n → Inv T (outr n f k s).1
  | 0, _, s, h, _ => h
  | f + 1, k, s, h, hn => by
    obtain ⟨a, b⟩ := inn_inv (k := k) (m := n) h (by omega)
    exact outr_inv (f := f) (k := k + 1) a (b.trans hn)
end C5

/-- the first ditch on the way down from w that has too much -/
def lmf (d : Dst) (a : Nat → Nat) : Nat → Nat → Int32
  | 0, _ => -105
  | f + 1, w => if d (50 + w) < FF d a w then nI w else lmf d a f (d (40 + w))
theorem lmf_zero {d : Dst} {a : Nat → Nat} (h0 : d 40 = 0) (h : ¬ d 50 < FF d a 0) : ∀ f, lmf d a f 0 = -105
  | 0 => rfl
  | f + 1 => by
    show (if d (50 + 0) < FF d a 0 then nI 0 else lmf d a f (d (40 + 0))) = _
    rw [if_neg h, show d (40 + 0) = 0 from h0]
    exact lmf_zero h0 h f
section C6
variable {T : Nat} {σ ρ : Mem} {d : Dst} {b : Nat → Nat} {ds : Nat → Dst} {n : Nat} {t : Nat → Nat}
theorem FrJ.flow {j : Nat} {τ τ' : Mem} (h : FrJ j σ τ) (h' : ∀ o : Oid, o.1 ≠ 4 → o.1 ≠ 15 → τ' o = τ o) : FrJ j σ τ' := fun o q1 q2 q3 q4 => (h' o q2 q3).trans (h o q1 q2 q3 q4)
-- the least supply
noncomputable def sd (d : Dst) (k : Nat) : Dst := du d (12 + hr d) k
theorem sd_sd (d : Dst) (k m : Nat) : du (sd d k) (12 + hr d) m = sd d m := du_du _ _ _ _
theorem sd_id (d : Dst) : sd d (d (12 + hr d)) = d := du_id _ _
theorem sd_inv (hI : Inv T d) {k : Nat} (hk : k ≤ 200) : Inv T (sd d k) := by
  have hh := hr_lt d
  exact Inv.mk (hI.geo.s12 hh hk) (hI.cnt.du hI.geo.nu (by omega))
-- the useful gate
def gd (d : Dst) (i k : Nat) : Dst := du d (50 + i) k
noncomputable def tot (d : Dst) (i k : Nat) : Nat := sm (amt (gd d i k)) (d 2)
theorem gd_inv (hI : Inv T d) {i k : Nat} (hi : i < d 1) (h1 : 1 ≤ k) (hk : k ≤ 200) : Inv T (gd d i k) := by
  have := hI.geo.nd
  exact Inv.mk (hI.geo.s50 hi h1 hk) (hI.cnt.du hI.geo.nu (by omega))
theorem C_unitsGot {τ : Mem} {j : Nat} {a : Nat → Nat} {Q : Int32 → Mem → Prop} (g : Geo d) (hv : RepX τ j d) (ha : Arr τ (4, 1, 0) (d 2) a) (hQ : Q (nI (sm a (d 2))) τ) : J_X1_unitsGot j τ Q := by
  have hn := g.nu
  unfold J_X1_unitsGot
  refine lpA (d 2) (by omega) (fun k => nI (sm a k)) rfl (fun k I μ hk next => ?_)
  rw [hv.nu]
  refine br_le (by omega) (by omega) (fun hle => ?_) (fun hlt => ?_)
  · have : k = d 2 := by omega
    subst this
    exact hQ
  · rw [nI_clamp (by omega), ha k hlt, nI_add]
    refine ⟨vp_in_nI (by omega) (by decide), ?_⟩
    rintro _ rfl _ rfl
    rw [nI_1]
    exact next hlt
theorem tot_le (hI : Inv T d) {i k : Nat} (hi : i < d 1) (h1 : 1 ≤ k) (hk : k ≤ 200) : tot d i k ≤ 6720 := by
  have hn := hI.geo.nu
  have hN := hI.geo.nd
  have hIk := gd_inv hI hi h1 hk
  have e2 : gd d i k 2 = d 2 := du_ne _ _ (by omega)
  have : sm (amt (gd d i k)) (d 2) ≤ d 2 * 560 := sm_le (fun u hu => by
    have hu2 : u < gd d i k 2 := by rw [e2]; exact hu
    exact Nat.le_trans ((amt_ok hIk.1 hIk.geo.2.2.2.2.2.2.2.2).2 u hu2) (ask_le (hIk.2.2.2.2.2.2.2.2.2.2.1 u hu2)))
  unfold tot
  omega
theorem C_trial {τ : Mem} {i k w : Nat} {Q : Int32 → Mem → Prop} (hI : Inv T d) (hi : i < d 1) (h1 : 1 ≤ k) (hk : k ≤ 200) (hv : RepX τ 1 (gd d i w)) (hQ : ∀ τ' : Mem, FrJ 1 τ τ' → RepX τ' 1 (gd d i k) → Q (nI (tot d i k)) τ') : J_X5_unitsGotInTrial (nI i) (nI k) τ Q := by
  have hn := hI.geo.nu
  have hN := hI.geo.nd
  have hIk := gd_inv hI hi h1 hk
  have e1 : gd d i w 1 = d 1 := du_ne _ _ (by omega)
  have e2 : gd d i k 2 = d 2 := du_ne _ _ (by omega)
  unfold J_X5_unitsGotInTrial
  rw [nI_clamp (by omega)]
  refine ⟨vp_in_nI (by omega) (by decide), ?_⟩
  rintro _ rfl
  have hr : RepX _ 1 (du (gd d i w) (50 + i) k) := hv.setD (f := 1) (by rw [e1]; exact hN) (by rw [e1]; exact hi) (by decide) k
  have e : du (gd d i w) (50 + i) k = gd d i k := du_du _ _ _ _
  rw [e] at hr
  refine C_distribute hIk hr (fun τ3 hf3 hv3 hF3 => C_unitsGot hIk.geo hv3 hF3.2.1 ?_)
  rw [e2]
  exact hQ τ3 ((FrJ.rf.own (k := 13) (by decide) _ _).tr (FrJ.of_fl hf3)) hv3
end C6

theorem lpLM {B : (Int64 → Int32 → Mem → Prop) → (Int64 → Int32 → Mem → Nat) → Int64 → Int32 → Mem → Prop} {y0 : Int64} {τ0 : Mem} (n : Nat) (hn : n < 2 ^ 30) (f : Nat → Int64) (h0 : y0 = f 0) (hB : ∀ (k : Nat) (I : Int64 → Int32 → Mem → Prop) (μ : Int64 → Int32 → Mem → Nat), k ≤ n → (k < n → I (f (k + 1)) (nI (k + 1)) τ0 ∧ μ (f (k + 1)) (nI (k + 1)) τ0 < μ (f k) (nI k) τ0) → B I μ (f k) (nI k) τ0) : ∃ (I : Int64 → Int32 → Mem → Prop) (μ : Int64 → Int32 → Mem → Nat), I y0 0 τ0 ∧ ∀ (y : Int64) (x : Int32) (τ : Mem), I y x τ → B I μ y x τ := by
  refine ⟨fun y x τ => τ = τ0 ∧ ∃ k, k ≤ n ∧ x = nI k ∧ y = f k, fun _ x _ => n - x.toNatClampNeg, ⟨rfl, 0, Nat.zero_le _, rfl, h0⟩, ?_⟩
  rintro y x τ ⟨rfl, k, hk, rfl, rfl⟩
  refine hB k _ _ hk (fun hlt => ⟨⟨rfl, k + 1, hlt, rfl, rfl⟩, ?_⟩)
  show n - (nI (k + 1)).toNatClampNeg < n - (nI k).toNatClampNeg
  rw [nI_clamp (by omega), nI_clamp (by omega)]
  omega
theorem lpL {B : (Int64 → Int32 → Prop) → (Int64 → Int32 → Nat) → Int64 → Int32 → Prop} {y0 : Int64} (n : Nat) (hn : n < 2 ^ 30) (f : Nat → Int64) (h0 : y0 = f 0) (hB : ∀ (k : Nat) (I : Int64 → Int32 → Prop) (μ : Int64 → Int32 → Nat), k ≤ n → (k < n → I (f (k + 1)) (nI (k + 1)) ∧ μ (f (k + 1)) (nI (k + 1)) < μ (f k) (nI k)) → B I μ (f k) (nI k)) : ∃ (I : Int64 → Int32 → Prop) (μ : Int64 → Int32 → Nat), I y0 0 ∧ ∀ (y : Int64) (x : Int32), I y x → B I μ y x := by
  refine ⟨fun y x => ∃ k, k ≤ n ∧ x = nI k ∧ y = f k, fun _ x => n - x.toNatClampNeg, ⟨0, Nat.zero_le _, rfl, h0⟩, ?_⟩
  rintro y x ⟨k, hk, rfl, rfl⟩
  refine hB k _ _ hk (fun hlt => ⟨⟨k + 1, hlt, rfl, rfl⟩, ?_⟩)
  show n - (nI (k + 1)).toNatClampNeg < n - (nI k).toNatClampNeg
  rw [nI_clamp (by omega), nI_clamp (by omega)]
  omega
def m31 (h : Int64) (x : Int32) : Int64 := 31 * h + x.toInt64
noncomputable def csd (d : Dst) (h : Int64) : Nat → Int64
  | 0 => h
  | k + 1 => m31 (m31 (csd d h k) (nI (FF d (amt d) k))) (nI (FF d (amt d) k) - nI (FP d (amt d) k))
noncomputable def csu (d : Dst) (h : Int64) : Nat → Int64
  | 0 => h
  | k + 1 => m31 (m31 (m31 (m31 (m31 (csu d h k) (nI (ask d k))) (nI (amt d k))) (nI (d (154 + k)))) (nI (d (190 + k)))) (nI (d (202 + k)))
def csa (d : Dst) (h : Int64) : Nat → Int64
  | 0 => h
  | k + 1 => m31 (csa d h k) (nI (d (5 + k)))
noncomputable def csum (d : Dst) : Int64 := m31 (csa d (csu d (csd d (m31 (m31 (m31 53 (nI (d 0))) (nI (d 1))) (nI (d 2))) (d 1)) (d 2)) 7) (turnC d)
