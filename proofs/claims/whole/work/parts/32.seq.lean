/-! PART 32: the text: rows of numbers and letters -/
section SQ
variable (t : Nat → Nat) (n : Nat)
noncomputable def pN {α : Type} (p lo hi : Nat) (k : Nat → Nat → Option α × Nat) : Option α × Nat := @ite (Option α × Nat) (nOk t n p lo hi) (Classical.propDecidable _) (k (nV t n p) (dE t n p)) (none, p)
noncomputable def pT {α : Type} (p x : Nat) (k : Nat → Option α × Nat) : Option α × Nat := @ite (Option α × Nat) (tk t n p x) (Classical.propDecidable _) (k (p + 1)) (none, p)
noncomputable def sq3 (p lo1 hi1 c1 : Nat) (lo2 : Nat → Nat) (hi2 c2 lo3 hi3 : Nat) : Option (Nat × Nat × Nat) × Nat := pN t n p lo1 hi1 (fun v1 p1 => pT t n p1 c1 (fun p2 => pN t n p2 (lo2 v1) hi2 (fun v2 p3 => pT t n p3 c2 (fun p4 => pN t n p4 lo3 hi3 (fun v3 p5 => pT t n p5 59 (fun p6 => (some (v1, v2, v3), p6)))))))
noncomputable def sq2 (p lo1 hi1 c1 lo2 hi2 : Nat) : Option (Nat × Nat) × Nat := pN t n p lo1 hi1 (fun v1 p1 => pT t n p1 c1 (fun p2 => pN t n p2 lo2 hi2 (fun v2 p3 => pT t n p3 59 (fun p4 => (some (v1, v2), p4)))))
end SQ
section SR
variable {t : Nat → Nat} {n : Nat}
/-- what is good of an outcome, seen from place p: its place is in the text, behind p if it is no fault -/
def Gd {α : Type} (n p : Nat) (P : α → Prop) (r : Option α × Nat) : Prop := r.2 ≤ n ∧ ∀ v, r.1 = some v → p < r.2 ∧ P v
theorem Gd.up {α : Type} {p p' : Nat} {P : α → Prop} {r : Option α × Nat} (h : Gd n p P r) (hp : p' ≤ p) : Gd n p' P r := ⟨h.1, fun v hv => ⟨by have := (h.2 v hv).1; omega, (h.2 v hv).2⟩⟩
theorem Gd.no {α : Type} {p f : Nat} {P : α → Prop} (h : f ≤ n) : Gd n p P ((none, f) : Option α × Nat) := ⟨h, fun v hv => by cases hv⟩
theorem Gd.yes {α : Type} {p q : Nat} {P : α → Prop} {v : α} (h : q ≤ n) (hp : p < q) (hv : P v) : Gd n p P ((some v, q) : Option α × Nat) := ⟨h, fun w hw => by cases hw; exact ⟨hp, hv⟩⟩
theorem pN_gd {α : Type} {p lo hi : Nat} {P : α → Prop} {k : Nat → Nat → Option α × Nat} (hp : p ≤ n) (h : ∀ v q, lo ≤ v → v < hi → p ≤ q → q ≤ n → Gd n p P (k v q)) : Gd n p P (pN t n p lo hi k) := by
  unfold pN
  split
  · rename_i z
    exact h _ _ z.2.2.1 z.2.2.2 (dE_ge p) (dE_le hp)
  · exact Gd.no hp
theorem pT_gd {α : Type} {p x : Nat} {P : α → Prop} {k : Nat → Option α × Nat} (hp : p ≤ n) (h : p < n → Gd n p P (k (p + 1))) : Gd n p P (pT t n p x k) := by
  unfold pT
  split
  · rename_i z
    exact h z.1
  · exact Gd.no hp
theorem sq3_gd {p lo1 hi1 c1 hi2 c2 lo3 hi3 : Nat} {lo2 : Nat → Nat} (hp : p ≤ n) : Gd n p (fun v => lo1 ≤ v.1 ∧ v.1 < hi1 ∧ lo2 v.1 ≤ v.2.1 ∧ v.2.1 < hi2 ∧ lo3 ≤ v.2.2 ∧ v.2.2 < hi3) (sq3 t n p lo1 hi1 c1 lo2 hi2 c2 lo3 hi3) := by
  refine pN_gd hp (fun v1 p1 a1 a2 a3 a4 => Gd.up (pT_gd a4 (fun b => Gd.up (pN_gd (by omega) (fun v2 p3 d1 d2 d3 d4 => Gd.up (pT_gd d4 (fun e => Gd.up (pN_gd (by omega) (fun v3 p5 f1 f2 f3 f4 => Gd.up (pT_gd f4 (fun g => Gd.yes (by omega) (by omega) ⟨a1, a2, d1, d2, f1, f2⟩)) f3)) (by omega))) d3)) (by omega))) a3)
theorem sq2_gd {p lo1 hi1 c1 lo2 hi2 : Nat} (hp : p ≤ n) : Gd n p (fun v => lo1 ≤ v.1 ∧ v.1 < hi1 ∧ lo2 ≤ v.2 ∧ v.2 < hi2) (sq2 t n p lo1 hi1 c1 lo2 hi2) := by
  refine pN_gd hp (fun v1 p1 a1 a2 a3 a4 => Gd.up (pT_gd a4 (fun b => Gd.up (pN_gd (by omega) (fun v2 p3 d1 d2 d3 d4 => Gd.up (pT_gd d4 (fun g => Gd.yes (by omega) (by omega) ⟨a1, a2, d1, d2⟩)) d3)) (by omega))) a3)
def Fr5 (σ σ' : Mem) : Prop := ∀ o : Oid, o ≠ (5, 0, 0) → σ' o = σ o
theorem Fr5.tr {σ σ' σ'' : Mem} (h : Fr5 σ σ') (h' : Fr5 σ' σ'') : Fr5 σ σ'' := fun o q => (h' o q).trans (h o q)
def Fr0 (σ σ' : Mem) : Prop := ∀ o : Oid, o ≠ (0, 0, 0) → o ≠ (10, 0, 0) → σ' o = σ o
theorem Fr0.tr {σ σ' σ'' : Mem} (h : Fr0 σ σ') (h' : Fr0 σ' σ'') : Fr0 σ σ'' := fun o q r => (h' o q r).trans (h o q r)
-- three numbers in the class
theorem C_sq3 {σ : Mem} {p c lo1 hi1 c1 hi2 c2 lo3 hi3 : Nat} {lo2 : Nat → Nat} {x1 x2 y2 z1' z2 k1' k2' : Int32} {y1' : Int32 → Int32} {K : Int32 → Int32 → Int32 → Mem → Prop} (hb : Tb n t) (hp : p ≤ n) (h : TX σ n t p c)
    (e1 : x1 = nI lo1) (e2 : x2 = dI hi1) (f1 : ∀ v, y1' (nI v) = nI (lo2 v)) (f2 : y2 = dI hi2) (g1 : z1' = nI lo3) (g2 : z2 = dI hi3) (ec1 : k1' = nI c1) (ec2 : k2' = nI c2) (hc1 : 0 < c1 ∧ c1 < 128) (hc2 : 0 < c2 ∧ c2 < 128)
    (b1 : lo1 < 2 ^ 30) (b2 : hi1 ≤ 10000) (b3 : ∀ v, v < hi1 → lo2 v < 2 ^ 30) (b4 : hi2 ≤ 10000) (b5 : lo3 < 2 ^ 30) (b6 : hi3 ≤ 10000)
    (hA : ∀ (v1 v2 v3 q : Nat) (σ' : Mem), sq3 t n p lo1 hi1 c1 lo2 hi2 c2 lo3 hi3 = (some (v1, v2, v3), q) → Fr5 σ σ' → TX σ' n t q c → K (nI v1) (nI v2) (nI v3) σ')
    (hF : ∀ (f : Nat) (r4 r6 r8 : Int32) (σ' : Mem), sq3 t n p lo1 hi1 c1 lo2 hi2 c2 lo3 hi3 = (none, f) → Fr5 σ σ' → TF σ' n f → K r4 r6 r8 σ') :
    J_X3_number x1 x2 σ (fun r4 τ4 => J_X3_pass k1' τ4 (fun τ5 => J_X3_number (y1' r4) y2 τ5 (fun r6 τ6 => J_X3_pass k2' τ6 (fun τ7 => J_X3_number z1' z2 τ7 (fun r8 τ8 => J_X3_pass 59 τ8 (fun τ9 => K r4 r6 r8 τ9)))))) := by
  subst ec1 ec2
  have hn := hb.1
  refine C_number hb hp h e1 e2 b1 b2 (fun ok1 σ1 fr1 t1 => ?_) (fun no σ1 fr1 t1 => ?_)
  · have q1 : dE t n p ≤ n := dE_le hp
    refine C_pass hb q1 hc1 t1 (fun ok2 σ2 fr2 t2 => ?_) (fun no σ2 fr2 t2 => ?_)
    · have q2 : dE t n p + 1 ≤ n := ok2.1
      refine C_number hb q2 t2 (f1 _) f2 (b3 _ ok1.2.2.2) b4 (fun ok3 σ3 fr3 t3 => ?_) (fun no σ3 fr3 t3 => ?_)
      · have q3 : dE t n (dE t n p + 1) ≤ n := dE_le q2
        refine C_pass hb q3 hc2 t3 (fun ok4 σ4 fr4 t4 => ?_) (fun no σ4 fr4 t4 => ?_)
        · have q4 : dE t n (dE t n p + 1) + 1 ≤ n := ok4.1
          refine C_number hb q4 t4 g1 g2 b5 b6 (fun ok5 σ5 fr5 t5 => ?_) (fun no σ5 fr5 t5 => ?_)
          · have q5 : dE t n (dE t n (dE t n p + 1) + 1) ≤ n := dE_le q4
            refine C_pass (x := 59) hb q5 (by decide) t5 (fun ok6 σ6 fr6 t6 => ?_) (fun no σ6 fr6 t6 => ?_)
            · exact hA _ _ _ _ σ6 ((((((if_pos ok1).trans (if_pos ok2)).trans (if_pos ok3)).trans (if_pos ok4)).trans (if_pos ok5)).trans (if_pos ok6)) (Fr5.tr (Fr5.tr (Fr5.tr (Fr5.tr (Fr5.tr fr1 fr2) fr3) fr4) fr5) fr6) t6
            · exact hF _ _ _ _ σ6 ((((((if_pos ok1).trans (if_pos ok2)).trans (if_pos ok3)).trans (if_pos ok4)).trans (if_pos ok5)).trans (if_neg no)) (Fr5.tr (Fr5.tr (Fr5.tr (Fr5.tr (Fr5.tr fr1 fr2) fr3) fr4) fr5) fr6) t6
          · exact C_pass_F t5 (by omega) (hF _ _ _ _ σ5 (((((if_pos ok1).trans (if_pos ok2)).trans (if_pos ok3)).trans (if_pos ok4)).trans (if_neg no)) (Fr5.tr (Fr5.tr (Fr5.tr (Fr5.tr fr1 fr2) fr3) fr4) fr5) t5)
        · exact C_number_F t4 (by omega) (C_pass_F t4 (by omega) (hF _ _ _ _ σ4 ((((if_pos ok1).trans (if_pos ok2)).trans (if_pos ok3)).trans (if_neg no)) (Fr5.tr (Fr5.tr (Fr5.tr fr1 fr2) fr3) fr4) t4))
      · exact C_pass_F t3 (by omega) (C_number_F t3 (by omega) (C_pass_F t3 (by omega) (hF _ _ _ _ σ3 (((if_pos ok1).trans (if_pos ok2)).trans (if_neg no)) (Fr5.tr (Fr5.tr fr1 fr2) fr3) t3)))
    · exact C_number_F t2 (by omega) (C_pass_F t2 (by omega) (C_number_F t2 (by omega) (C_pass_F t2 (by omega) (hF _ _ _ _ σ2 ((if_pos ok1).trans (if_neg no)) (Fr5.tr fr1 fr2) t2))))
  · exact C_pass_F t1 (by omega) (C_number_F t1 (by omega) (C_pass_F t1 (by omega) (C_number_F t1 (by omega) (C_pass_F t1 (by omega) (hF _ _ _ _ σ1 (if_neg no) fr1 t1)))))
theorem C_sq2 {σ : Mem} {p c lo1 hi1 c1 lo2 hi2 : Nat} {x1 x2 y1' y2 k1' : Int32} {K : Int32 → Int32 → Mem → Prop} (hb : Tb n t) (hp : p ≤ n) (h : TX σ n t p c)
    (e1 : x1 = nI lo1) (e2 : x2 = dI hi1) (f1 : y1' = nI lo2) (f2 : y2 = dI hi2) (ec1 : k1' = nI c1) (hc1 : 0 < c1 ∧ c1 < 128)
    (b1 : lo1 < 2 ^ 30) (b2 : hi1 ≤ 10000) (b3 : lo2 < 2 ^ 30) (b4 : hi2 ≤ 10000)
    (hA : ∀ (v1 v2 q : Nat) (σ' : Mem), sq2 t n p lo1 hi1 c1 lo2 hi2 = (some (v1, v2), q) → Fr5 σ σ' → TX σ' n t q c → K (nI v1) (nI v2) σ')
    (hF : ∀ (f : Nat) (r4 r6 : Int32) (σ' : Mem), sq2 t n p lo1 hi1 c1 lo2 hi2 = (none, f) → Fr5 σ σ' → TF σ' n f → K r4 r6 σ') :
    J_X3_number x1 x2 σ (fun r4 τ4 => J_X3_pass k1' τ4 (fun τ5 => J_X3_number y1' y2 τ5 (fun r6 τ6 => J_X3_pass 59 τ6 (fun τ7 => K r4 r6 τ7)))) := by
  subst ec1
  have hn := hb.1
  refine C_number hb hp h e1 e2 b1 b2 (fun ok1 σ1 fr1 t1 => ?_) (fun no σ1 fr1 t1 => ?_)
  · have q1 : dE t n p ≤ n := dE_le hp
    refine C_pass hb q1 hc1 t1 (fun ok2 σ2 fr2 t2 => ?_) (fun no σ2 fr2 t2 => ?_)
    · have q2 : dE t n p + 1 ≤ n := ok2.1
      refine C_number hb q2 t2 f1 f2 b3 b4 (fun ok3 σ3 fr3 t3 => ?_) (fun no σ3 fr3 t3 => ?_)
      · have q3 : dE t n (dE t n p + 1) ≤ n := dE_le q2
        refine C_pass (x := 59) hb q3 (by decide) t3 (fun ok4 σ4 fr4 t4 => ?_) (fun no σ4 fr4 t4 => ?_)
        · exact hA _ _ _ σ4 ((((if_pos ok1).trans (if_pos ok2)).trans (if_pos ok3)).trans (if_pos ok4)) (Fr5.tr (Fr5.tr (Fr5.tr fr1 fr2) fr3) fr4) t4
        · exact hF _ _ _ σ4 ((((if_pos ok1).trans (if_pos ok2)).trans (if_pos ok3)).trans (if_neg no)) (Fr5.tr (Fr5.tr (Fr5.tr fr1 fr2) fr3) fr4) t4
      · exact C_pass_F t3 (by omega) (hF _ _ _ σ3 (((if_pos ok1).trans (if_pos ok2)).trans (if_neg no)) (Fr5.tr (Fr5.tr fr1 fr2) fr3) t3)
    · exact C_number_F t2 (by omega) (C_pass_F t2 (by omega) (hF _ _ _ σ2 ((if_pos ok1).trans (if_neg no)) (Fr5.tr fr1 fr2) t2))
  · exact C_pass_F t1 (by omega) (C_number_F t1 (by omega) (C_pass_F t1 (by omega) (hF _ _ _ σ1 (if_neg no) fr1 t1)))
-- three numbers in the reference
theorem Fr0.of {ρ ρ' : Mem} (h : ∀ o : Oid, o ≠ (0, 0, 0) → ρ' o = ρ o) : Fr0 ρ ρ' := fun o q _ => h o q
theorem R_sq3 {ρ : Mem} {p lo1 hi1 c1 hi2 c2 lo3 hi3 : Nat} {lo2 : Nat → Nat} {x1 x2 y2 z1' z2 k1' k2' : Int32} {y1' : Mem → Int32} {Q : Int32 → Mem → Prop} (hb : Tb n t) (hp : p ≤ n) (h : TM ρ n t p)
    (e1 : x1 = nI lo1) (e2 : x2 = dI hi1) (f1 : ∀ (τ : Mem) (v : Nat), τ (10, 0, 0) 0 = nI v → y1' τ = nI (lo2 v)) (f2 : y2 = dI hi2) (g1 : z1' = nI lo3) (g2 : z2 = dI hi3) (ec1 : k1' = nI c1) (ec2 : k2' = nI c2) (hc1 : 0 < c1 ∧ c1 < 128) (hc2 : 0 < c2 ∧ c2 < 128)
    (b1 : lo1 < 2 ^ 30) (b2 : hi1 ≤ 10000) (b3 : ∀ v, v < hi1 → lo2 v < 2 ^ 30) (b4 : hi2 ≤ 10000) (b5 : lo3 < 2 ^ 30) (b6 : hi3 ≤ 10000)
    (hA : ∀ (v1 v2 v3 q : Nat) (ρ' : Mem), sq3 t n p lo1 hi1 c1 lo2 hi2 c2 lo3 hi3 = (some (v1, v2, v3), q) → Fr0 ρ ρ' → TM ρ' n t q → ρ' (10, 0, 0) 0 = nI v1 → ρ' (10, 0, 0) 1 = nI v2 → ρ' (10, 0, 0) 2 = nI v3 → Q 1 ρ')
    (hF : ∀ (f : Nat) (ρ' : Mem), sq3 t n p lo1 hi1 c1 lo2 hi2 c2 lo3 hi3 = (none, f) → Fr0 ρ ρ' → TM ρ' n t f → Q 0 ρ')
    {B : Int32 → Mem → Prop} (hB0 : ∀ τ : Mem, Q 0 τ → B 0 τ)
    (hB1 : ∀ τ : Mem, J_X6_takes k2' τ (fun r4 τ4 => ((r4 = 0 → Q 0 τ4) ∧ (¬ r4 = 0 → J_X6_number 2 z1' z2 τ4 (fun r6 τ6 => ((r6 = 0 → Q 0 τ6) ∧ (¬ r6 = 0 → J_X6_takes 59 τ6 (fun r8 τ8 => ((r8 = 0 → Q 0 τ8) ∧ (¬ r8 = 0 → Q 1 τ8))))))))) → B 1 τ) :
    J_X6_number 0 x1 x2 ρ (fun r1 τ1 => ((r1 = 0 → B 0 τ1) ∧ (¬ r1 = 0 → J_X6_takes k1' τ1 (fun r10 τ10 => ((r10 = 0 → B 0 τ10) ∧ (¬ r10 = 0 → J_X6_number 1 (y1' τ10) y2 τ10 (fun r12 τ12 => ((r12 = 0 → B 0 τ12) ∧ (¬ r12 = 0 → B 1 τ12))))))))) := by
  subst ec1 ec2
  have hn := hb.1
  refine R_number (w := 0) hb hp h (by decide) rfl e1 e2 b1 b2 (fun ok1 σ1 fr1 t1 w1 _ => z1 ?_) (fun no σ1 fr1 t1 => z0 (hB0 _ (hF _ _ (if_neg no) fr1 t1)))
  have q1 : dE t n p ≤ n := dE_le hp
  refine R_takes hb q1 hc1 t1 (fun ok2 σ2 fr2' t2 => z1 ?_) (fun no σ2 fr2' t2 => z0 (hB0 _ (hF _ _ ((if_pos ok1).trans (if_neg no)) (Fr0.tr fr1 (Fr0.of fr2')) t2)))
  have fr2 : Fr0 σ1 σ2 := Fr0.of fr2'
  have w2 : σ2 (10, 0, 0) 0 = nI (nV t n p) := by rw [fr2' _ (by decide)]; exact w1
  have q2 : dE t n p + 1 ≤ n := ok2.1
  refine R_number (w := 1) hb q2 t2 (by decide) rfl (f1 _ _ w2) f2 (b3 _ ok1.2.2.2) b4 (fun ok3 σ3 fr3 t3 w3 w3' => z1 (hB1 _ ?_)) (fun no σ3 fr3 t3 => z0 (hB0 _ (hF _ _ (((if_pos ok1).trans (if_pos ok2)).trans (if_neg no)) (Fr0.tr (Fr0.tr fr1 fr2) fr3) t3)))
  have q3 : dE t n (dE t n p + 1) ≤ n := dE_le q2
  refine R_takes hb q3 hc2 t3 (fun ok4 σ4 fr4' t4 => z1 ?_) (fun no σ4 fr4' t4 => z0 (hF _ _ ((((if_pos ok1).trans (if_pos ok2)).trans (if_pos ok3)).trans (if_neg no)) (Fr0.tr (Fr0.tr (Fr0.tr fr1 fr2) fr3) (Fr0.of fr4')) t4))
  have fr4 : Fr0 σ3 σ4 := Fr0.of fr4'
  have q4 : dE t n (dE t n p + 1) + 1 ≤ n := ok4.1
  refine R_number (w := 2) hb q4 t4 (by decide) rfl g1 g2 b5 b6 (fun ok5 σ5 fr5 t5 w5 w5' => z1 ?_) (fun no σ5 fr5 t5 => z0 (hF _ _ (((((if_pos ok1).trans (if_pos ok2)).trans (if_pos ok3)).trans (if_pos ok4)).trans (if_neg no)) (Fr0.tr (Fr0.tr (Fr0.tr (Fr0.tr fr1 fr2) fr3) fr4) fr5) t5))
  have q5 : dE t n (dE t n (dE t n p + 1) + 1) ≤ n := dE_le q4
  have w44 : ∀ i, σ4 (10, 0, 0) i = σ3 (10, 0, 0) i := fun i => by rw [fr4' _ (by decide)]
  refine R_takes (x := 59) hb q5 (by decide) t5 (fun ok6 σ6 fr6' t6 => z1 ?_) (fun no σ6 fr6' t6 => z0 (hF _ _ ((((((if_pos ok1).trans (if_pos ok2)).trans (if_pos ok3)).trans (if_pos ok4)).trans (if_pos ok5)).trans (if_neg no)) (Fr0.tr (Fr0.tr (Fr0.tr (Fr0.tr (Fr0.tr fr1 fr2) fr3) fr4) fr5) (Fr0.of fr6')) t6))
  have w66 : ∀ i, σ6 (10, 0, 0) i = σ5 (10, 0, 0) i := fun i => by rw [fr6' _ (by decide)]
  refine hA _ _ _ _ σ6 ((((((if_pos ok1).trans (if_pos ok2)).trans (if_pos ok3)).trans (if_pos ok4)).trans (if_pos ok5)).trans (if_pos ok6)) (Fr0.tr (Fr0.tr (Fr0.tr (Fr0.tr (Fr0.tr fr1 fr2) fr3) fr4) fr5) (Fr0.of fr6')) t6 ?_ ?_ ?_
  · rw [w66, w5' 0 (by decide), w44, w3' 0 (by decide)]
    exact w2
  · rw [w66, w5' 1 (by decide), w44]
    exact w3
  · rw [w66]
    exact w5
end SR
