/-! PART 34: the text: an order in the reference; the whole text; faultPosition and read -/
section RO
variable {t : Nat → Nat} {n : Nat}
def Fr01 (ρ ρ' : Mem) : Prop := ∀ o : Oid, o ≠ (0, 0, 0) → o ≠ (10, 0, 0) → o ≠ (1, 0, 0) → ρ' o = ρ o
theorem Fr01.tr {σ σ' σ'' : Mem} (h : Fr01 σ σ') (h' : Fr01 σ' σ'') : Fr01 σ σ'' := fun o q r s => (h' o q r s).trans (h o q r s)
theorem Fr01.of0 {σ σ' : Mem} (h : Fr0 σ σ') : Fr01 σ σ' := fun o q r _ => h o q r
theorem Fr01.of1 {σ σ' : Mem} (h : ∀ o : Oid, o ≠ (1, 0, 0) → σ' o = σ o) : Fr01 σ σ' := fun o _ _ r => h o r
theorem Fr0.repM {d : Dst} {σ σ' : Mem} (h : Fr0 σ σ') (hv : RepM σ d) : RepM σ' d := hv.row (h _ (by decide) (by decide))
theorem R_order {ρ : Mem} {p : Nat} {d : Dst} {Q : Int32 → Mem → Prop} (hb : Tb n t) (hp : p < n) (g : Geo d) (h : TM ρ n t p) (hv : RepM ρ d)
    (hA : ∀ (d' : Dst) (q : Nat) (ρ' : Mem), ordR t n d p = (some d', q) → Fr01 ρ ρ' → TM ρ' n t q → RepM ρ' d' → Q 1 ρ')
    (hF : ∀ (f : Nat) (ρ' : Mem), ordR t n d p = (none, f) → Fr01 ρ ρ' → TM ρ' n t f → Q 0 ρ') : J_X6_isOrder ρ Q := by
  have hN := g.nd
  have hn := g.nu
  have hn1 := hb.1
  have hb1 := hb.2 p hp
  have rf : Fr01 ρ ρ := fun _ _ _ _ => rfl
  have bad : ordR t n d p = (none, p) → J_X6_isOrder_b72 (nI (t p)) 0 ρ Q := by
    intro e
    unfold J_X6_isOrder_b72
    exact y0 (hF p ρ e rf h)
  -- behind the letter
  have hT1 : TM (mup ρ (0, 0, 0) 10 (nI (p + 1))) n t (p + 1) := h.mv (p + 1)
  have hv1 : RepM (mup ρ (0, 0, 0) 10 (nI (p + 1))) d := hv.row (mup_ne _ _ _ (by decide))
  have fr1 : Fr0 ρ (mup ρ (0, 0, 0) 10 (nI (p + 1))) := fun o q _ => mup_ne _ _ _ q
  have fin : ∀ (r : Int32) (τ : Mem), isB r → Q r τ → isB r ∧ Q r τ := fun r τ a b => ⟨a, b⟩
  have keepT : ∀ {τ τ' : Mem} {q : Nat}, TM τ n t q → (∀ o : Oid, o ≠ (1, 0, 0) → τ' o = τ o) → TM τ' n t q := fun a b => a.row (b _ (by decide)) (b _ (by decide))
  unfold J_X6_isOrder
  refine R_here hb (by omega) h (fun _ => ⟨fun q => ⟨fun q2 => ⟨fun q3 => ?_, fun q3 => ⟨fun q4 => ?_, fun q4 => ?_⟩⟩, fun q2 => ?_⟩, fun q => ?_⟩) (fun z => absurd hp (by omega))
  · -- a turn
    have hc : t p = 116 := (nI_eq (by omega) (by omega)).mp q3
    have e := ((if_neg (by omega) : ordR t n d p = _).trans (if_neg (by omega))).trans (if_pos hc)
    rw [hc]
    unfold J_X6_isOrder_b72
    refine y1 ?_
    rw [h.1, nI_1]
    rintro _ rfl
    refine k1 (by decide) (k1 (by decide) (k0 rfl ?_))
    have b0 : ∀ (f : Nat) (τ : Mem), sq2 t n (p + 1) 0 (d 2) 46 0 25 = (none, f) → Fr0 (mup ρ (0, 0, 0) 10 (nI (p + 1))) τ → TM τ n t f → J_X6_isOrder_b236 0 τ Q := by
      intro f τ es fr tm
      have e' : ordR t n d p = (none, f) := e.trans (mpo_n es)
      unfold J_X6_isOrder_b236
      exact z0 ⟨Or.inl rfl, hF f τ e' (Fr01.of0 (Fr0.tr fr1 fr)) tm⟩
    rw [hv1 2 (by decide)]
    refine R_number (w := 0) (lo := 0) (hi := d 2) hb hp hT1 (by decide) rfl rfl rfl (by decide) (by omega) (fun ok1 σ1 f1 t1 w1 _ => z1 ?_) (fun no σ1 f1 t1 => z0 (b0 _ _ (if_neg no) f1 t1))
    have q1 : dE t n (p + 1) ≤ n := dE_le hp
    refine R_takes (x := 46) hb q1 (by decide) t1 (fun ok2 σ2 f2' t2 => z1 ?_) (fun no σ2 f2' t2 => z0 (b0 _ _ ((if_pos ok1).trans (if_neg no)) (Fr0.tr f1 (Fr0.of f2')) t2))
    have f2 : Fr0 σ1 σ2 := Fr0.of f2'
    have w2 : σ2 (10, 0, 0) 0 = nI (nV t n (p + 1)) := by rw [f2' _ (by decide)]; exact w1
    have q2 : dE t n (p + 1) + 1 ≤ n := ok2.1
    refine R_number (w := 1) (lo := 0) (hi := 25) hb q2 t2 (by decide) rfl rfl (dI_succ 24).symm (by decide) (by decide) (fun ok3 σ3 f3 t3 w3 w3' => z1 ?_) (fun no σ3 f3 t3 => z0 (b0 _ _ (((if_pos ok1).trans (if_pos ok2)).trans (if_neg no)) (Fr0.tr (Fr0.tr f1 f2) f3) t3))
    have q3 : dE t n (dE t n (p + 1) + 1) ≤ n := dE_le q2
    refine R_takes (x := 59) hb q3 (by decide) t3 (fun ok4 σ4 f4' t4 => z1 ?_) (fun no σ4 f4' t4 => z0 (b0 _ _ ((((if_pos ok1).trans (if_pos ok2)).trans (if_pos ok3)).trans (if_neg no)) (Fr0.tr (Fr0.tr (Fr0.tr f1 f2) f3) (Fr0.of f4')) t4))
    have f4 : Fr0 σ3 σ4 := Fr0.of f4'
    have es : sq2 t n (p + 1) 0 (d 2) 46 0 25 = (some (nV t n (p + 1), nV t n (dE t n (p + 1) + 1)), dE t n (dE t n (p + 1) + 1) + 1) := ((((if_pos ok1).trans (if_pos ok2)).trans (if_pos ok3)).trans (if_pos ok4))
    have e' := e.trans (mpo_s es)
    have fr := Fr0.tr (Fr0.tr (Fr0.tr (Fr0.tr fr1 f1) f2) f3) f4
    have hu : nV t n (p + 1) < d 2 := ok1.2.2.2
    have w4 : σ4 (10, 0, 0) 0 = nI (nV t n (p + 1)) := by rw [f4' _ (by decide), w3' 0 (by decide)]; exact w2
    have w4' : σ4 (10, 0, 0) 1 = nI (nV t n (dE t n (p + 1) + 1)) := by rw [f4' _ (by decide)]; exact w3
    unfold J_X6_isOrder_b236
    rw [w4, w4', fa_lit 178, nI_add]
    refine z1 (R_puts (fr.repM hv) (by omega) (fun τ' et hr => ⟨Or.inr rfl, ?_⟩))
    have ft : ∀ o : Oid, o ≠ (1, 0, 0) → τ' o = σ4 o := fun o q => by rw [et, mup_ne _ _ _ q]
    exact hA _ _ _ e' ((Fr01.of0 fr).tr (Fr01.of1 ft)) (keepT t4 ft) hr
  · -- no order
    have hx : ∀ k : Nat, k < 1000 → ¬ nI (t p) = nI k → t p ≠ k := fun k hk q z => q (by rw [z])
    exact bad ((((if_neg (hx 100 (by decide) q) : ordR t n d p = _).trans (if_neg (hx 117 (by decide) q2))).trans (if_neg (hx 116 (by decide) q3))).trans (if_neg (hx 115 (by decide) q4)))
  · -- the supply
    have hc : t p = 115 := (nI_eq (by omega) (by omega)).mp q4
    have e := (((if_neg (by omega) : ordR t n d p = _).trans (if_neg (by omega))).trans (if_neg (by omega))).trans (if_pos hc)
    rw [hc]
    unfold J_X6_isOrder_b72
    refine y1 ?_
    rw [h.1, nI_1]
    rintro _ rfl
    refine k1 (by decide) (k1 (by decide) (k1 (by decide) ?_))
    unfold J_X6_isSupplyOrder
    refine R_sq3 (Q := fun r10 τ10 => ((r10 = 0 → isB r10 ∧ Q r10 τ10) ∧ (¬ r10 = 0 → J_X6_supplies (τ10 (10, 0, 0) 0) (τ10 (10, 0, 0) 1) (τ10 (10, 0, 0) 2) τ10 (fun r13 τ13 => isB r10 ∧ Q r10 τ13)))) (B := fun r τ => J_X6_isSupplyOrder_b43 r τ _) (y1' := fun τ => τ (10, 0, 0) 0 + 1) (lo1 := 0) (hi1 := 24) (c1 := 45) (lo2 := fun v => v + 1) (hi2 := 25) (c2 := 46) (lo3 := 0) (hi3 := 201) hb hp hT1 rfl (dI_succ 23).symm (fun τ v hτ => by rw [hτ]; exact nI_1 v) (dI_succ 24).symm rfl (dI_succ 200).symm rfl rfl (by decide) (by decide) (by decide) (by omega) (fun v hv => by show v + 1 < _; omega) (by decide) (by decide) (by decide) (fun v1 v2 v3 q' ρ' es fr tm o1 o2 o3 => ?_) (fun f ρ' es fr tm => ?_) (fun τ hq => z0 hq) (fun τ hq => z1 hq)
    · have e' := e.trans (mpo_s es)
      have gs := sq3_gd (t := t) (n := n) (p := p + 1) (lo1 := 0) (hi1 := 24) (c1 := 45) (lo2 := fun v => v + 1) (hi2 := 25) (c2 := 46) (lo3 := 0) (hi3 := 201) hp
      rw [es] at gs
      obtain ⟨-, a1, a2, a3, a4, a5, a6⟩ := gs.2 _ rfl
      have a3' : v1 + 1 ≤ v2 := a3
      have a4' : v2 < 25 := a4
      have fr' := Fr0.tr fr1 fr
      rw [o1, o2, o3]
      refine z1 (R_supplies (fr'.repM hv) (by omega) (by omega) (fun τ' ft hr => ⟨Or.inr rfl, ?_⟩))
      exact hA _ _ _ e' ((Fr01.of0 fr').tr (Fr01.of1 ft)) (keepT tm ft) hr
    · have e' : ordR t n d p = (none, f) := e.trans (mpo_n es)
      exact z0 ⟨Or.inl rfl, hF f ρ' e' (Fr01.of0 (Fr0.tr fr1 fr)) tm⟩
  · -- a user
    have hc : t p = 117 := (nI_eq (by omega) (by omega)).mp q2
    have e0 := (if_neg (by omega) : ordR t n d p = _).trans (if_pos hc)
    rw [hv 2 (by decide), fa_lit 12]
    refine br_le (by omega) (by omega) (fun z => bad (e0.trans (if_neg (by omega)))) (fun z => ?_)
    have e := e0.trans (if_pos z)
    rw [hc]
    unfold J_X6_isOrder_b72
    refine y1 ?_
    rw [h.1, nI_1]
    rintro _ rfl
    refine k1 (by decide) (k0 rfl ?_)
    unfold J_X6_isUserOrder
    refine R_sq3 (Q := fun r27 τ27 => ((r27 = 0 → isB r27 ∧ Q r27 τ27) ∧ (¬ r27 = 0 → J_X6_addsUser (τ27 (10, 0, 0) 0) (τ27 (10, 0, 0) 1) (τ27 (10, 0, 0) 2) τ27 (fun r30 τ30 => isB r27 ∧ Q r27 τ30)))) (B := fun r τ => J_X6_isUserOrder_b45 r τ _) (y1' := fun _ => 1800) (lo1 := 0) (hi1 := d 1) (c1 := 46) (lo2 := fun _ => 1800) (hi2 := 2100) (c2 := 46) (lo3 := 0) (hi3 := 61) hb hp hT1 rfl (by rw [hv1 1 (by decide)]; rfl) (fun _ _ _ => rfl) (dI_succ 2099).symm rfl (dI_succ 60).symm rfl rfl (by decide) (by decide) (by decide) (by omega) (fun _ _ => by decide) (by decide) (by decide) (by decide) (fun v1 v2 v3 q' ρ' es fr tm o1 o2 o3 => ?_) (fun f ρ' es fr tm => ?_) (fun τ hq => z0 hq) (fun τ hq => z1 hq)
    · have e' := e.trans (mpo_s es)
      have fr' := Fr0.tr fr1 fr
      rw [o1, o2, o3]
      refine z1 (R_addsUser (fr'.repM hv) z (fun τ' ft hr => ⟨Or.inr rfl, ?_⟩))
      exact hA _ _ _ e' ((Fr01.of0 fr').tr (Fr01.of1 ft)) (keepT tm ft) hr
    · have e' : ordR t n d p = (none, f) := e.trans (mpo_n es)
      exact z0 ⟨Or.inl rfl, hF f ρ' e' (Fr01.of0 (Fr0.tr fr1 fr)) tm⟩
  · -- a ditch
    have hc : t p = 100 := (nI_eq (by omega) (by omega)).mp q
    rw [hv 1 (by decide), fa_lit 10]
    refine br_le (by omega) (by omega) (fun z => bad ((if_pos hc).trans (if_neg (by omega)))) (fun z => ?_)
    have e := (if_pos hc : ordR t n d p = _).trans (if_pos z)
    rw [hc]
    unfold J_X6_isOrder_b72
    refine y1 ?_
    rw [h.1, nI_1]
    rintro _ rfl
    refine k0 rfl ?_
    unfold J_X6_isDitchOrder
    refine R_sq3 (Q := fun r32 τ32 => ((r32 = 0 → isB r32 ∧ Q r32 τ32) ∧ (¬ r32 = 0 → J_X6_addsDitch (τ32 (10, 0, 0) 0) (τ32 (10, 0, 0) 1) (τ32 (10, 0, 0) 2) τ32 (fun r35 τ35 => isB r32 ∧ Q r32 τ35)))) (B := fun r τ => J_X6_isDitchOrder_b43 r τ _) (y1' := fun _ => 1) (lo1 := 0) (hi1 := d 1) (c1 := 46) (lo2 := fun _ => 1) (hi2 := 201) (c2 := 46) (lo3 := 0) (hi3 := 51) hb hp hT1 rfl (by rw [hv1 1 (by decide)]; rfl) (fun _ _ _ => rfl) (dI_succ 200).symm rfl (dI_succ 50).symm rfl rfl (by decide) (by decide) (by decide) (by omega) (fun _ _ => by decide) (by decide) (by decide) (by decide) (fun v1 v2 v3 q' ρ' es fr tm o1 o2 o3 => ?_) (fun f ρ' es fr tm => ?_) (fun τ hq => z0 hq) (fun τ hq => z1 hq)
    · have e' := e.trans (mpo_s es)
      have fr' := Fr0.tr fr1 fr
      rw [o1, o2, o3]
      refine z1 (R_addsDitch (fr'.repM hv) z (fun τ' ft hr => ⟨Or.inr rfl, ?_⟩))
      exact hA _ _ _ e' ((Fr01.of0 fr').tr (Fr01.of1 ft)) (keepT tm ft) hr
    · have e' : ordR t n d p = (none, f) := e.trans (mpo_n es)
      exact z0 ⟨Or.inl rfl, hF f ρ' e' (Fr01.of0 (Fr0.tr fr1 fr)) tm⟩
end RO
