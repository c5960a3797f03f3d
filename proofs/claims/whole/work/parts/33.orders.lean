/-! PART 33: the text: an order, in the class and in the reference -/
def mpo {α β : Type} (f : α → β) (r : Option α × Nat) : Option β × Nat := (r.1.map f, r.2)
theorem mpo_s {α β : Type} {f : α → β} {r : Option α × Nat} {v : α} {q : Nat} (h : r = (some v, q)) : mpo f r = (some (f v), q) := by rw [h]; rfl
theorem mpo_n {α β : Type} {f : α → β} {r : Option α × Nat} {q : Nat} (h : r = (none, q)) : mpo f r = (none, q) := by rw [h]; rfl
section OR
variable {t : Nat → Nat} {n : Nat}
theorem mpo_gd {α β : Type} {p : Nat} {f : α → β} {P : α → Prop} {P' : β → Prop} {r : Option α × Nat} (h : Gd n p P r) (hf : ∀ v, P v → P' (f v)) : Gd n p P' (mpo f r) := by
  obtain ⟨o, q⟩ := r
  refine ⟨h.1, fun v hv => ?_⟩
  cases o with
  | none => cases hv
  | some w =>
    cases hv
    exact ⟨(h.2 w rfl).1, hf w (h.2 w rfl).2⟩
noncomputable def ordR (t : Nat → Nat) (n : Nat) (d : Dst) (p : Nat) : Option Dst × Nat :=
  if t p = 100 then (if d 1 < 10 then mpo (fun v : Nat × Nat × Nat => addD d v.1 v.2.1 v.2.2) (sq3 t n (p + 1) 0 (d 1) 46 (fun _ => 1) 201 46 0 51) else (none, p))
  else if t p = 117 then (if d 2 < 12 then mpo (fun v : Nat × Nat × Nat => addU d v.1 v.2.1 v.2.2) (sq3 t n (p + 1) 0 (d 1) 46 (fun _ => 1800) 2100 46 0 61) else (none, p))
  else if t p = 116 then mpo (fun v : Nat × Nat => du d (178 + v.1) v.2) (sq2 t n (p + 1) 0 (d 2) 46 0 25)
  else if t p = 115 then mpo (fun v : Nat × Nat × Nat => spd d v.1 v.2.2 (v.2.1 - v.1)) (sq3 t n (p + 1) 0 24 45 (fun v => v + 1) 25 46 0 201)
  else (none, p)
def GC (d d' : Dst) : Prop := Geo d' ∧ ∀ T, Cnt T d → Cnt T d'
theorem ord_gd {d : Dst} {p : Nat} (g : Geo d) (hp : p < n) : Gd n p (GC d) (ordR t n d p) := by
  have hN := g.nd
  have hn := g.nu
  unfold ordR
  split
  · split
    · exact mpo_gd (Gd.up (sq3_gd hp) (by omega)) (fun v h => ⟨addD_geo g (by omega) h.2.1 ⟨h.2.2.1, by omega⟩ (by omega), fun T c => addD_cnt c (by omega)⟩)
    · exact Gd.no (by omega)
  · split
    · split
      · exact mpo_gd (Gd.up (sq3_gd hp) (by omega)) (fun v h => ⟨addU_geo g (by omega) h.2.1 (by omega) (by omega), fun T c => addU_cnt2 c (by omega)⟩)
      · exact Gd.no (by omega)
    · split
      · exact mpo_gd (Gd.up (sq2_gd hp) (by omega)) (fun v h => ⟨g.s178 h.2.1 (by omega), fun T c => c.du hn (by omega)⟩)
      · split
        · exact mpo_gd (Gd.up (sq3_gd hp) (by omega)) (fun v h => ⟨spd_geo g (by omega) (by omega), fun T c => spd_cnt c (by omega)⟩)
        · exact Gd.no (by omega)
-- the class
def FrT (j : Nat) (σ σ' : Mem) : Prop := ∀ o : Oid, o ≠ (5, 0, 0) → (o.1 < 7 ∨ 14 < o.1 ∨ o.2.1 ≠ j) → σ' o = σ o
theorem FrT.tr {j : Nat} {σ σ' σ'' : Mem} (h : FrT j σ σ') (h' : FrT j σ' σ'') : FrT j σ σ'' := fun o q r => (h' o q r).trans (h o q r)
theorem FrT.of5 {j : Nat} {σ σ' : Mem} (h : Fr5 σ σ') : FrT j σ σ' := fun o q _ => h o q
theorem FrT.of7 {j : Nat} {σ σ' : Mem} (h : FrJ j σ σ') (h' : ∀ o : Oid, o.1 < 7 ∨ 14 < o.1 → σ' o = σ o) : FrT j σ σ' := fun o q r => by
  by_cases z : o.1 < 7 ∨ 14 < o.1
  · exact h' o z
  · exact h o (by omega) (by omega) (by omega) r
theorem Fr5.rep {j : Nat} {d : Dst} {σ σ' : Mem} (h : Fr5 σ σ') (hv : RepX σ j d) : RepX σ' j d := hv.row (fun o q1 q2 _ => h o (fun z => by rw [z] at q1; exact absurd q1 (by decide)))
theorem Fr5.m {σ : Mem} (k : Nat) (x : Int32) : Fr5 σ (mup σ (5, 0, 0) k x) := fun o q => mup_ne _ _ _ q
theorem TX.row {σ σ' : Mem} {p c : Nat} (h : TX σ n t p c) (e5 : σ' (5, 0, 0) = σ (5, 0, 0)) (e6 : σ' (6, 0, 0) = σ (6, 0, 0)) : TX σ' n t p c := by
  obtain ⟨h1, h2, h3, h4, h5⟩ := h
  exact ⟨by rw [e5]; exact h1, by rw [e5]; exact h2, by rw [e5]; exact h3, by rw [e5]; exact h4, fun i hi => by rw [e6]; exact h5 i hi⟩
theorem TF.m {σ : Mem} {f k : Nat} (h : TF σ n f) (hk : k ≠ 1 ∧ k ≠ 0) (x : Int32) : TF (mup σ (5, 0, 0) k x) n f := ⟨by rw [mup_other _ _ _ (by omega)]; exact h.1, by rw [mup_other _ _ _ (by omega)]; exact h.2⟩
theorem C_next {σ : Mem} {j p c : Nat} {d : Dst} {Q : Mem → Prop} (hb : Tb n t) (hp : p < n) (g : Geo d) (h : TX σ n t p c) (hv : RepX σ j d)
    (hA : ∀ (d' : Dst) (q : Nat) (σ' : Mem), ordR t n d p = (some d', q) → FrT j σ σ' → TX σ' n t q c → RepX σ' j d' → Q σ')
    (hF : ∀ (f : Nat) (σ' : Mem), ordR t n d p = (none, f) → f ≤ n → FrT j σ σ' → TF σ' n f → Q σ') : J_X3_carryOutNext j σ Q := by
  have hN := g.nd
  have hn := g.nu
  have hn1 := hb.1
  have hb1 := hb.2 p hp
  have hgd := ord_gd (t := t) g hp
  have hF' : ∀ (f : Nat) (σ' : Mem), ordR t n d p = (none, f) → FrT j σ σ' → TF σ' n f → Q σ' := fun f σ' e => hF f σ' e (by rw [e] at hgd; exact hgd.1)
  have hT1 : TX (mup σ (5, 0, 0) 4 (nI (p + 1))) n t (p + 1) c := h.mv (p + 1)
  have hv1 : RepX (mup σ (5, 0, 0) 4 (nI (p + 1))) j d := (Fr5.m _ _).rep hv
  have fr1 : Fr5 σ (mup σ (5, 0, 0) 4 (nI (p + 1))) := Fr5.m _ _
  have flt : ∀ σ' : Mem, TF σ' n p → ∀ {A B : Prop}, A → (¬ σ' (5, 0, 0) 1 = -105 → A) ∧ (σ' (5, 0, 0) 1 = -105 → B) := fun σ' hf A B a => k1 (by rw [hf.1]; exact m105_ne (by omega)) a
  have fltf : ∀ (f : Nat) (σ' : Mem), f ≤ n → TF σ' n f → ∀ {A B : Prop}, A → (¬ σ' (5, 0, 0) 1 = -105 → A) ∧ (σ' (5, 0, 0) 1 = -105 → B) := fun f σ' hfn hf A B a => k1 (by rw [hf.1]; exact m105_ne (by omega)) a
  unfold J_X3_carryOutNext
  refine C_letter hb (by omega) h (fun _ => ⟨fun q => ?_, fun q => ?_, fun q => ?_, fun q => ?_, fun q1 q2 q3 q4 => ?_⟩) (fun z => absurd hp (by omega))
  · -- a ditch
    have hc : t p = 100 := (nI_eq (by omega) (by omega)).mp q
    unfold J_X3_addDitchTo J_X2_hasRoomForDitch
    rw [hv.nd, fa_lit 10]
    refine br_le (by omega) (by omega) (fun z => y0 ?_) (fun z => y1 ?_)
    · have e : ordR t n d p = (none, p) := (if_pos hc).trans (if_neg (by omega))
      rw [h.2.1]
      rintro _ rfl
      have hf12 : TF (mup σ (5, 0, 0) 1 (nI p)) n p := h.ft p
      unfold J_X3_addDitchTo_b15
      rintro _ rfl
      have hf3 := hf12.m (k := 4) (by decide) (mup σ (5, 0, 0) 1 (nI p) (5, 0, 0) 4 + 1)
      exact C_number_F hf3 (by omega) (C_pass_F hf3 (by omega) (C_number_F hf3 (by omega) (C_pass_F hf3 (by omega) (C_number_F hf3 (by omega) (C_pass_F hf3 (by omega) (flt _ hf3 (hF' p _ e (FrT.of5 (Fr5.tr (Fr5.m _ _) (Fr5.m _ _))) hf3)))))))
    · have e := (if_pos hc : ordR t n d p = _).trans (if_pos z)
      unfold J_X3_addDitchTo_b15
      rw [h.2.1, nI_1]
      rintro _ rfl
      refine C_sq3 (K := fun r4 r6 r8 τ9 => ((¬ (τ9 (5, 0, 0) 1) = (-105) → Q τ9) ∧ ((τ9 (5, 0, 0) 1) = (-105) → J_X2_putDitch j r4 r6 r8 τ9 (fun τ11 => Q τ11)))) (y1' := fun _ => 1) (lo1 := 0) (hi1 := d 1) (c1 := 46) (lo2 := fun _ => 1) (hi2 := 201) (c2 := 46) (lo3 := 0) (hi3 := 51) hb hp hT1 rfl (by rw [hv1.nd]; rfl) (fun _ => rfl) (dI_succ 200).symm rfl (dI_succ 50).symm rfl rfl (by decide) (by decide) (by decide) (by omega) (fun _ _ => by decide) (by decide) (by decide) (by decide) (fun v1 v2 v3 q' σ' es fr tx => ?_) (fun f r4 r6 r8 σ' es fr tf => ?_)
      · have e' := e.trans (mpo_s es)
        refine k0 tx.1 (C_putDitch g ((Fr5.tr fr1 fr).rep hv) z (fun τ' hf' hfr' hr' => ?_))
        exact hA _ _ _ e' ((FrT.of5 (Fr5.tr fr1 fr)).tr (FrT.of7 hfr' (fun o q => hf' o (by omega) (by omega)))) (tx.row (hf' _ (by decide) (by decide)) (hf' _ (by decide) (by decide))) hr'
      · have e' : ordR t n d p = (none, f) := e.trans (mpo_n es)
        have hfn : f ≤ n := by rw [e'] at hgd; exact hgd.1
        exact fltf f _ hfn tf (hF' f _ e' (FrT.of5 (Fr5.tr fr1 fr)) tf)
  · -- the supply
    have hc : t p = 115 := (nI_eq (by omega) (by omega)).mp q
    have e := (((if_neg (by omega) : ordR t n d p = _).trans (if_neg (by omega))).trans (if_neg (by omega))).trans (if_pos hc)
    unfold J_X3_setSupplyIn
    rw [h.2.1, nI_1]
    rintro _ rfl
    refine C_sq3 (K := fun r4 r6 r8 τ9 => ((¬ (τ9 (5, 0, 0) 1) = (-105) → Q τ9) ∧ ((τ9 (5, 0, 0) 1) = (-105) → J_X2_putSupply j r4 r6 r8 τ9 (fun τ11 => Q τ11)))) (y1' := fun r => r + 1) (lo1 := 0) (hi1 := 24) (c1 := 45) (lo2 := fun v => v + 1) (hi2 := 25) (c2 := 46) (lo3 := 0) (hi3 := 201) hb hp hT1 rfl (dI_succ 23).symm (fun v => nI_1 v) (dI_succ 24).symm rfl (dI_succ 200).symm rfl rfl (by decide) (by decide) (by decide) (by omega) (fun v hv => by show v + 1 < _; omega) (by decide) (by decide) (by decide) (fun v1 v2 v3 q' σ' es fr tx => ?_) (fun f r4 r6 r8 σ' es fr tf => ?_)
    · have e' := e.trans (mpo_s es)
      have gs := sq3_gd (t := t) (n := n) (p := p + 1) (lo1 := 0) (hi1 := 24) (c1 := 45) (lo2 := fun v => v + 1) (hi2 := 25) (c2 := 46) (lo3 := 0) (hi3 := 201) hp
      rw [es] at gs
      obtain ⟨-, a1, a2, a3, a4, a5, a6⟩ := gs.2 _ rfl
      have a3' : v1 + 1 ≤ v2 := a3
      have a4' : v2 < 25 := a4
      refine k0 tx.1 (C_putSupply g ((Fr5.tr fr1 fr).rep hv) (by omega) (by omega) (fun τ' hf' hr' => ?_))
      refine hA _ _ _ e' ((FrT.of5 (Fr5.tr fr1 fr)).tr (fun o _ q => hf' o (fun w => by rw [w] at q; dsimp only at q; omega))) (tx.row (hf' _ (oid_ne (by decide : (5 : Nat) ≠ 11))) (hf' _ (oid_ne (by decide : (6 : Nat) ≠ 11)))) hr'
    · have e' : ordR t n d p = (none, f) := e.trans (mpo_n es)
      have hfn : f ≤ n := by rw [e'] at hgd; exact hgd.1
      exact fltf f _ hfn tf (hF' f _ e' (FrT.of5 (Fr5.tr fr1 fr)) tf)
  · -- a turn
    have hc : t p = 116 := (nI_eq (by omega) (by omega)).mp q
    have e := ((if_neg (by omega) : ordR t n d p = _).trans (if_neg (by omega))).trans (if_pos hc)
    unfold J_X3_setTurnIn
    rw [h.2.1, nI_1]
    rintro _ rfl
    refine C_sq2 (K := fun r2 r4 τ5 => ((¬ (τ5 (5, 0, 0) 1) = (-105) → Q τ5) ∧ ((τ5 (5, 0, 0) 1) = (-105) → J_X2_hasUser j r2 τ5 (fun r7 τ7 => ((r7 = 0 → Q τ7) ∧ (¬ r7 = 0 → vp_in r2 12 ∧ ∀ τ10 : Mem, τ10 = mup τ7 (14, j, r2.toNatClampNeg) 9 r4 → Q τ10)))))) (lo1 := 0) (hi1 := d 2) (c1 := 46) (lo2 := 0) (hi2 := 25) hb hp hT1 rfl (by rw [hv1.nu]; rfl) rfl (dI_succ 24).symm rfl (by decide) (by decide) (by omega) (by decide) (by decide) (fun v1 v2 q' σ' es fr tx => ?_) (fun f r4 r6 σ' es fr tf => ?_)
    · have e' := e.trans (mpo_s es)
      have gs := sq2_gd (t := t) (n := n) (p := p + 1) (lo1 := 0) (hi1 := d 2) (c1 := 46) (lo2 := 0) (hi2 := 25) hp
      rw [es] at gs
      obtain ⟨-, a1, a2, a3, a4⟩ := gs.2 _ rfl
      have a2' : v1 < d 2 := a2
      have hv' := (Fr5.tr fr1 fr).rep hv
      refine k0 tx.1 (C_usr_t g hv' ⟨v1, Nat.zero_le _, a2', rfl⟩ (z1 ⟨vp_in_nI (by omega) (by decide), ?_⟩))
      rw [nI_clamp (by omega)]
      rintro _ rfl
      refine hA _ _ _ e' ((FrT.of5 (Fr5.tr fr1 fr)).tr (fun o _ q => mup_ne _ _ _ (fun w => by rw [w] at q; dsimp only at q; omega))) (tx.row (mup_ne _ _ _ (oid_ne (by decide : (5 : Nat) ≠ 14))) (mup_ne _ _ _ (oid_ne (by decide : (6 : Nat) ≠ 14)))) (hv'.setU (f := 9) hN hn a2' (by decide) (by decide) v2)
    · have e' : ordR t n d p = (none, f) := e.trans (mpo_n es)
      have hfn : f ≤ n := by rw [e'] at hgd; exact hgd.1
      exact fltf f _ hfn tf (hF' f _ e' (FrT.of5 (Fr5.tr fr1 fr)) tf)
  · -- a user
    have hc : t p = 117 := (nI_eq (by omega) (by omega)).mp q
    have e0 := (if_neg (by omega) : ordR t n d p = _).trans (if_pos hc)
    unfold J_X3_addUserTo J_X2_hasRoomForUser
    rw [hv.nu, fa_lit 12]
    refine br_le (by omega) (by omega) (fun z => y0 ?_) (fun z => y1 ?_)
    · have e : ordR t n d p = (none, p) := e0.trans (if_neg (by omega))
      rw [h.2.1]
      rintro _ rfl
      have hf12 : TF (mup σ (5, 0, 0) 1 (nI p)) n p := h.ft p
      unfold J_X3_addUserTo_b15
      rintro _ rfl
      have hf3 := hf12.m (k := 4) (by decide) (mup σ (5, 0, 0) 1 (nI p) (5, 0, 0) 4 + 1)
      exact C_number_F hf3 (by omega) (C_pass_F hf3 (by omega) (C_number_F hf3 (by omega) (C_pass_F hf3 (by omega) (C_number_F hf3 (by omega) (C_pass_F hf3 (by omega) (flt _ hf3 (hF' p _ e (FrT.of5 (Fr5.tr (Fr5.m _ _) (Fr5.m _ _))) hf3)))))))
    · have e := e0.trans (if_pos z)
      unfold J_X3_addUserTo_b15
      rw [h.2.1, nI_1]
      rintro _ rfl
      refine C_sq3 (K := fun r4 r6 r8 τ9 => ((¬ (τ9 (5, 0, 0) 1) = (-105) → Q τ9) ∧ ((τ9 (5, 0, 0) 1) = (-105) → J_X2_putUser j r4 r6 r8 τ9 (fun τ11 => Q τ11)))) (y1' := fun _ => 1800) (lo1 := 0) (hi1 := d 1) (c1 := 46) (lo2 := fun _ => 1800) (hi2 := 2100) (c2 := 46) (lo3 := 0) (hi3 := 61) hb hp hT1 rfl (by rw [hv1.nd]; rfl) (fun _ => rfl) (dI_succ 2099).symm rfl (dI_succ 60).symm rfl rfl (by decide) (by decide) (by decide) (by omega) (fun _ _ => by decide) (by decide) (by decide) (by decide) (fun v1 v2 v3 q' σ' es fr tx => ?_) (fun f r4 r6 r8 σ' es fr tf => ?_)
      · have e' := e.trans (mpo_s es)
        have gs := sq3_gd (t := t) (n := n) (p := p + 1) (lo1 := 0) (hi1 := d 1) (c1 := 46) (lo2 := fun _ => 1800) (hi2 := 2100) (c2 := 46) (lo3 := 0) (hi3 := 61) hp
        rw [es] at gs
        obtain ⟨-, a1, a2, a3, a4, a5, a6⟩ := gs.2 _ rfl
        have a4' : v2 < 2100 := a4
        refine k0 tx.1 (C_putUser g ((Fr5.tr fr1 fr).rep hv) z (by omega) (fun τ' hf' hfr' hr' => ?_))
        exact hA _ _ _ e' ((FrT.of5 (Fr5.tr fr1 fr)).tr (FrT.of7 hfr' (fun o q => hf' o (by omega) (by omega) (by omega)))) (tx.row (hf' _ (by decide) (by decide) (by decide)) (hf' _ (by decide) (by decide) (by decide))) hr'
      · have e' : ordR t n d p = (none, f) := e.trans (mpo_n es)
        have hfn : f ≤ n := by rw [e'] at hgd; exact hgd.1
        exact fltf f _ hfn tf (hF' f _ e' (FrT.of5 (Fr5.tr fr1 fr)) tf)
  · -- no order
    have hx : ∀ k : Nat, k < 1000 → ¬ nI (t p) = nI k → t p ≠ k := fun k hk q z => q (by rw [z])
    have e : ordR t n d p = (none, p) := (((if_neg (hx 100 (by decide) q1) : ordR t n d p = _).trans (if_neg (hx 117 (by decide) q4))).trans (if_neg (hx 116 (by decide) q3))).trans (if_neg (hx 115 (by decide) q2))
    rw [h.2.1]
    rintro _ rfl
    exact hF' p _ e (FrT.of5 (Fr5.m _ _)) (h.ft p)
end OR
