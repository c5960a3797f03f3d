/-! PART 35: the whole text; faultPosition and read -/
noncomputable def rdR (t : Nat → Nat) (n : Nat) : Nat → Dst → Nat → Nat → Option (Dst × Nat) × Nat
  | 0, d, p, c => (some (d, c), p)
  | f + 1, d, p, c => if p < n then (match ordR t n d p with
    | (some d', q) => rdR t n f d' q (c + 1)
    | (none, q) => (none, q)) else (some (d, c), p)
section RT
variable {t : Nat → Nat} {n : Nat}
theorem rdR_end {f : Nat} {d : Dst} {p c : Nat} (h : n ≤ p) : rdR t n f d p c = (some (d, c), p) := by
  cases f with
  | zero => rfl
  | succ f => exact if_neg (by omega)
theorem rdR_yes {f : Nat} {d d' : Dst} {p q c : Nat} (h : p < n) (e : ordR t n d p = (some d', q)) : rdR t n (f + 1) d p c = rdR t n f d' q (c + 1) := by
  show (if p < n then (match ordR t n d p with
    | (some d', q) => rdR t n f d' q (c + 1)
    | (none, q) => (none, q)) else (some (d, c), p)) = _
  rw [if_pos h, e]
theorem rdR_no {f : Nat} {d : Dst} {p q c : Nat} (h : p < n) (e : ordR t n d p = (none, q)) : rdR t n (f + 1) d p c = (none, q) := by
  show (if p < n then (match ordR t n d p with
    | (some d', q) => rdR t n f d' q (c + 1)
    | (none, q) => (none, q)) else (some (d, c), p)) = _
  rw [if_pos h, e]
theorem rdR_gd : ∀ {f : Nat} {d : Dst} {p c : Nat}, Geo d → p ≤ n → (rdR t n f d p c).2 ≤ n ∧ ∀ d' c', (rdR t n f d p c).1 = some (d', c') → GC d d'
  | 0, d, p, c, g, hp => ⟨hp, fun d' c' h => by cases h; exact ⟨g, fun _ c => c⟩⟩
  | f + 1, d, p, c, g, hp => by
    by_cases h : p < n
    · have hg := ord_gd (t := t) g h
      cases e : ordR t n d p with
      | mk o q =>
        rw [e] at hg
        cases o with
        | none =>
          rw [rdR_no h e]
          exact ⟨hg.1, fun d' c' h => by cases h⟩
        | some d' =>
          rw [rdR_yes h e]
          obtain ⟨g1, g2⟩ := hg.2 d' rfl
          obtain ⟨a, b⟩ := rdR_gd (f := f) (d := d') (p := q) (c := c + 1) g2.1 hg.1
          refine ⟨a, fun d2 c2 h2 => ?_⟩
          obtain ⟨b1, b2⟩ := b d2 c2 h2
          exact ⟨b1, fun T c => b2 T (g2.2 T c)⟩
    · rw [rdR_end (by omega)]
      exact ⟨hp, fun d' c' h => by cases h; exact ⟨g, fun _ c => c⟩⟩
theorem TX.or {σ : Mem} {p c : Nat} (h : TX σ n t p c) (q : Nat) : TX (mup σ (5, 0, 0) 2 (nI q)) n t p q := by
  obtain ⟨h1, h2, h3, h4, h5⟩ := h
  refine ⟨?_, ?_, mup_same _ _ _ _, ?_, fun i hi => ?_⟩
  · rw [mup_other _ _ _ (by decide)]; exact h1
  · rw [mup_other _ _ _ (by decide)]; exact h2
  · rw [mup_other _ _ _ (by decide)]; exact h4
  · rw [mup_ne _ _ _ (by decide)]; exact h5 i hi
theorem C_carryOut {σ : Mem} {j : Nat} {d : Dst} {Q : Mem → Prop} (hb : Tb n t) (g : Geo d) (hl : σ (5, 0, 0) 0 = nI n) (ht : ∀ i, i < n → σ (6, 0, 0) i = nI (t i)) (hv : RepX σ j d)
    (hA : ∀ (d' : Dst) (c q : Nat) (σ' : Mem), rdR t n (n + 1) d 0 0 = (some (d', c), q) → FrT j σ σ' → σ' (5, 0, 0) 0 = nI n → σ' (5, 0, 0) 1 = -105 → σ' (5, 0, 0) 2 = nI c → RepX σ' j d' → Q σ')
    (hF : ∀ (f : Nat) (σ' : Mem), rdR t n (n + 1) d 0 0 = (none, f) → FrT j σ σ' → σ' (5, 0, 0) 0 = nI n → σ' (5, 0, 0) 1 = nI f → Q σ') : J_X3_carryOut j σ Q := by
  have hn := hb.1
  unfold J_X3_carryOut
  rintro _ rfl _ rfl _ rfl
  generalize hF0 : rdR t n (n + 1) d 0 0 = F at hA hF
  have fr3 : Fr5 σ (mup (mup (mup σ (5, 0, 0) 4 0) (5, 0, 0) 1 (-105)) (5, 0, 0) 2 0) := fun o q => by rw [mup_ne _ _ _ q, mup_ne _ _ _ q, mup_ne _ _ _ q]
  have tx3 : TX (mup (mup (mup σ (5, 0, 0) 4 0) (5, 0, 0) 1 (-105)) (5, 0, 0) 2 0) n t 0 0 := by
    refine ⟨?_, ?_, ?_, ?_, fun i hi => ?_⟩
    · rw [mup_other _ _ _ (by decide), mup_same]
    · rw [mup_other _ _ _ (by decide), mup_other _ _ _ (by decide), mup_same]; rfl
    · rw [mup_same]; rfl
    · rw [mup_other _ _ _ (by decide), mup_other _ _ _ (by decide), mup_other _ _ _ (by decide)]; exact hl
    · rw [mup_ne _ _ _ (by decide), mup_ne _ _ _ (by decide), mup_ne _ _ _ (by decide)]; exact ht i hi
  refine ⟨fun τ => FrT j σ τ ∧ ((∃ f d' p c, p ≤ n ∧ c ≤ p ∧ n - p < f ∧ rdR t n f d' p c = F ∧ Geo d' ∧ TX τ n t p c ∧ RepX τ j d') ∨ ∃ f, F = (none, f) ∧ f ≤ n ∧ TF τ n f), fun τ => if τ (5, 0, 0) 1 = -105 then 200 - (τ (5, 0, 0) 4).toNatClampNeg else 0, ⟨FrT.of5 fr3, Or.inl ⟨n + 1, d, 0, 0, Nat.zero_le _, Nat.le_refl _, by omega, hF0, g, tx3, fr3.rep hv⟩⟩, ?_⟩
  rintro τ ⟨hfr, hc⟩
  rcases hc with ⟨f, d', p, c, hp, hcp, hf, hr, g', tx, hv'⟩ | ⟨f, hr, hfn, tf⟩
  · have done : n ≤ p → Q τ := fun q => by
      rw [rdR_end q] at hr
      exact hA d' c p τ hr.symm hfr tx.2.2.2.1 tx.1 tx.2.2.1 hv'
    rw [tx.2.2.2.1, tx.2.1]
    refine br_le (by omega) (by omega) done (fun q => k0 tx.1 ?_)
    rw [tx.2.2.1, fa_lit 100]
    refine br_le (by omega) (by omega) (fun z => absurd z (by omega)) (fun _ => ?_)
    obtain ⟨f, rfl⟩ : ∃ f', f = f' + 1 := ⟨f - 1, by omega⟩
    have hμ0 : (if τ (5, 0, 0) 1 = -105 then 200 - (τ (5, 0, 0) 4).toNatClampNeg else 0) = 200 - p := by
      rw [if_pos tx.1, tx.2.1, nI_clamp (by omega)]
    have hgd := ord_gd (t := t) g' q
    refine C_next hb q g' tx hv' (fun d2 q2 σ' e fr tx2 hv2 => ?_) (fun f2 σ' e hf2 fr tf2 => ?_)
    · rw [e] at hgd
      obtain ⟨a1, a2⟩ := hgd.2 d2 rfl
      have a0 : q2 ≤ n := hgd.1
      have a1' : p < q2 := a1
      rw [tx2.2.2.1, nI_1]
      rintro _ rfl
      have tx3 := tx2.or (c + 1)
      refine ⟨⟨(hfr.tr fr).tr (FrT.of5 (Fr5.m _ _)), Or.inl ⟨f, d2, q2, c + 1, a0, by omega, by omega, ?_, a2.1, tx3, (Fr5.m _ _).rep hv2⟩⟩, ?_⟩
      · rw [← hr, rdR_yes q e]
      · show (if mup σ' (5, 0, 0) 2 (nI (c + 1)) (5, 0, 0) 1 = -105 then 200 - (mup σ' (5, 0, 0) 2 (nI (c + 1)) (5, 0, 0) 4).toNatClampNeg else 0) < (if τ (5, 0, 0) 1 = -105 then 200 - (τ (5, 0, 0) 4).toNatClampNeg else 0)
        rw [hμ0, if_pos tx3.1, tx3.2.1, nI_clamp (by omega)]
        omega
    · rintro _ rfl
      have tf3 := tf2.m (k := 2) (by decide) (σ' (5, 0, 0) 2 + 1)
      refine ⟨⟨(hfr.tr fr).tr (FrT.of5 (Fr5.m _ _)), Or.inr ⟨f2, ?_, hf2, tf3⟩⟩, ?_⟩
      · rw [← hr, rdR_no q e]
      · show (if mup σ' (5, 0, 0) 2 (σ' (5, 0, 0) 2 + 1) (5, 0, 0) 1 = -105 then 200 - (mup σ' (5, 0, 0) 2 (σ' (5, 0, 0) 2 + 1) (5, 0, 0) 4).toNatClampNeg else 0) < (if τ (5, 0, 0) 1 = -105 then 200 - (τ (5, 0, 0) 4).toNatClampNeg else 0)
        rw [hμ0, if_neg (by rw [tf3.1]; exact m105_ne (by omega))]
        omega
  · have done : Q τ := hF f τ hr hfr tf.2 tf.1
    exact ⟨fun _ => done, fun _ => k1 (by rw [tf.1]; exact m105_ne (by omega)) done⟩
theorem R_reads {ρ : Mem} {d : Dst} {Q : Int32 → Mem → Prop} (hb : Tb n t) (g : Geo d) (hl : ρ (0, 0, 0) 5 = nI n) (ht : ∀ i, i < n → ρ (5, 0, 0) i = nI (t i)) (hv : RepM ρ d)
    (hA : ∀ (d' : Dst) (c q : Nat) (ρ' : Mem), rdR t n (n + 1) d 0 0 = (some (d', c), q) → c ≤ 100 → Fr01 ρ ρ' → ρ' (0, 0, 0) 5 = nI n → RepM ρ' d' → Q (nI c) ρ')
    (hF : ∀ (f : Nat) (ρ' : Mem), rdR t n (n + 1) d 0 0 = (none, f) → Fr01 ρ ρ' → ρ' (0, 0, 0) 5 = nI n → ρ' (0, 0, 0) 10 = nI f → Q (-1) ρ') : J_X6_reads ρ Q := by
  have hn := hb.1
  unfold J_X6_reads
  rintro _ rfl
  generalize hF0 : rdR t n (n + 1) d 0 0 = F at hA hF
  have fr3 : Fr01 ρ (mup ρ (0, 0, 0) 10 0) := fun o q _ _ => by rw [mup_ne _ _ _ q]
  have tx3 : TM (mup ρ (0, 0, 0) 10 0) n t 0 := by
    refine ⟨?_, ?_, fun i hi => ?_⟩
    · rw [mup_same]; rfl
    · rw [mup_other _ _ _ (by decide)]; exact hl
    · rw [mup_ne _ _ _ (by decide)]; exact ht i hi
  refine ⟨fun x τ => Fr01 ρ τ ∧ ∃ f d' p c, p ≤ n ∧ c ≤ p ∧ n - p < f ∧ x = nI c ∧ rdR t n f d' p c = F ∧ Geo d' ∧ TM τ n t p ∧ RepM τ d', fun _ τ => 200 - (τ (0, 0, 0) 10).toNatClampNeg, ⟨fr3, n + 1, d, 0, 0, Nat.zero_le _, Nat.le_refl _, by omega, rfl, hF0, g, tx3, hv.row (mup_ne _ _ _ (by decide))⟩, ?_⟩
  rintro x τ ⟨hfr, f, d', p, c, hp, hcp, hf, rfl, hr, g', tx, hv'⟩
  rw [tx.2.1, tx.1]
  refine br_le (by omega) (by omega) (fun q => ?_) (fun q => ?_)
  · rw [rdR_end q] at hr
    exact hA d' c p τ hr.symm (by omega) hfr tx.2.1 hv'
  · obtain ⟨f, rfl⟩ : ∃ f', f = f' + 1 := ⟨f - 1, by omega⟩
    have hgd := ord_gd (t := t) g' q
    refine R_order hb q g' tx hv' (fun d2 q2 σ' e fr tx2 hv2 => y1 ?_) (fun f2 σ' e fr tx2 => y0 ?_)
    · rw [e] at hgd
      obtain ⟨a1, a2⟩ := hgd.2 d2 rfl
      have a0 : q2 ≤ n := hgd.1
      have a1' : p < q2 := a1
      rw [nI_1]
      rintro _ rfl
      refine ⟨⟨hfr.tr fr, f, d2, q2, c + 1, a0, by omega, by omega, rfl, ?_, a2.1, tx2, hv2⟩, ?_⟩
      · rw [← hr, rdR_yes q e]
      · show 200 - (σ' (0, 0, 0) 10).toNatClampNeg < 200 - (τ (0, 0, 0) 10).toNatClampNeg
        rw [tx2.1, tx.1, nI_clamp (by omega), nI_clamp (by omega)]
        omega
    · exact hF f2 σ' (by rw [← hr, rdR_no q e]) (hfr.tr fr) tx2.2.1 tx2.1
end RT
section C8
variable {T : Nat} {σ ρ : Mem} {d : Dst} {b : Nat → Nat} {ds : Nat → Dst} {n : Nat} {t : Nat → Nat}
/-- the class, behind the text carried out on the trial state -/
theorem WX.frT {σ' σ'' : Mem} (h : WX σ d b ds n t) (e : FrS 1 σ σ') (e' : FrT 1 σ' σ'') (hl : σ'' (5, 0, 0) 0 = nI n) : WX σ'' d b ds n t := by
  obtain ⟨h1, h2, h3, h4⟩ := h
  have k : ∀ o : Oid, o ≠ (5, 0, 0) → (o.1 < 7 ∨ 14 < o.1 ∨ o.2.1 ≠ 1) → σ'' o = σ o := fun o q r => (e' o q r).trans (e o r)
  refine ⟨h1.row (fun o a1 a2 a3 => k o (fun z => by rw [z] at a1; exact absurd a1 (by decide)) (by omega)), fun s hs => ⟨?_, fun q => ((h2 s hs).2 q).row (fun o a1 a2 a3 => k o (fun z => by rw [z] at a1; exact absurd a1 (by decide)) (by omega))⟩, hl, fun i hi => ?_⟩
  · rw [k _ (by decide) (by decide)]
    exact (h2 s hs).1
  · rw [k _ (by decide) (by decide)]
    exact h4 i hi
theorem WM.fr01 {ρ' ρ'' : Mem} {d' : Dst} (h : WM ρ d b ds n t) (e : ∀ o : Oid, o ≠ (2, 0, 0) → ρ' o = ρ o) (e' : Fr01 ρ' ρ'') (hl : ρ'' (0, 0, 0) 5 = nI n) (hv : RepM ρ'' d') : WM ρ'' d' b ds n t := by
  refine h.fr ⟨fun o q => ?_, ?_⟩ hv
  · rw [e' o (fun z => by rw [z] at q; revert q; decide) (fun z => by rw [z] at q; revert q; decide) (fun z => by rw [z] at q; revert q; decide), e o (fun z => by rw [z] at q; revert q; decide)]
  · rw [hl]
    exact h.2.2.1.symm
theorem P_faultPosition (hS : IS T d b ds n t) (hT : T + 48 ≤ 30000) (hX : WX σ d b ds n t) (hM : WM ρ d b ds n t) : Agr (T + 48) (J_X5_faultPosition σ) (J_X6_faultPosition ρ) := by
  have g := hS.geo
  have hb : Tb n t := ⟨hS.2.2.1, hS.2.2.2⟩
  refine Agr.same hS hT (match rdR t n (n + 1) d 0 0 with | (some _, _) => -105 | (none, f) => nI f) ?_ ?_
  · unfold J_X5_faultPosition
    refine C_copyFrom g (by decide) hX.1 (fun τ1 hf1 hr1 => ?_)
    refine C_carryOut hb g (by rw [hf1 _ (by decide)]; exact hX.2.2.1) (fun i hi => by rw [hf1 _ (by decide)]; exact hX.2.2.2 i hi) hr1 (fun d' c q σ' e fr hl h1 h2 hv => ?_) (fun f σ' e fr hl h1 => ?_)
    · rw [e, h1]
      exact ⟨rfl, hX.frT hf1 fr hl⟩
    · rw [e, h1]
      exact ⟨rfl, hX.frT hf1 fr hl⟩
  · unfold J_X6_faultPosition
    refine R_keeps hM.1 (fun τ1 hf1 hk1 => ?_)
    have kp : ∀ {ρ' : Mem}, Fr01 τ1 ρ' → ∀ k, k < 214 → ρ' (2, 0, 0) k = nI (d k) := fun h k hk => by rw [h _ (by decide) (by decide) (by decide)]; exact hk1 k hk
    refine R_reads hb g (by rw [hf1 _ (by decide)]; exact hM.2.2.1) (fun i hi => by rw [hf1 _ (by decide)]; exact hM.2.2.2 i hi) (hM.1.row (hf1 _ (by decide))) (fun d' c q ρ' e hc fr hl hv => R_brings (kp fr) (fun τ3 hf3 hr3 => ?_)) (fun f ρ' e fr hl h1 => R_brings (kp fr) (fun τ3 hf3 hr3 => ?_))
    · rw [e]
      exact i1 (nI_pos' (by omega)) ⟨rfl, hM.fr01 hf1 (fr.tr (Fr01.of1 hf3)) (by rw [hf3 _ (by decide)]; exact hl) hr3⟩
    · rw [e]
      refine i0 (by decide) ⟨?_, hM.fr01 hf1 (fr.tr (Fr01.of1 hf3)) (by rw [hf3 _ (by decide)]; exact hl) hr3⟩
      rw [hf3 _ (by decide)]
      exact h1
theorem P_read (hS : IS T d b ds n t) (hT : T + 48 ≤ 30000) (hX : WX σ d b ds n t) (hM : WM ρ d b ds n t) : Agr (T + 48) (J_X5_read σ) (J_X6_read ρ) := by
  have g := hS.geo
  have hb : Tb n t := ⟨hS.2.2.1, hS.2.2.2⟩
  have hgd := rdR_gd (t := t) (n := n) (f := n + 1) (c := 0) g (Nat.zero_le n)
  cases eF : rdR t n (n + 1) d 0 0 with
  | mk o q0 =>
    rw [eF] at hgd
    cases o with
    | none =>
      have hq0 : q0 ≤ n := hgd.1
      refine Agr.same hS hT (-103) ?_ ?_
      · unfold J_X5_read
        refine C_copyFrom g (by decide) hX.1 (fun τ1 hf1 hr1 => ?_)
        refine C_carryOut hb g (by rw [hf1 _ (by decide)]; exact hX.2.2.1) (fun i hi => by rw [hf1 _ (by decide)]; exact hX.2.2.2 i hi) hr1 (fun d' c q σ' e fr hl h1 h2 hv => ?_) (fun f σ' e fr hl h1 => ?_)
        · rw [eF] at e; cases e
        · rw [eF] at e
          cases e
          exact i0 (by rw [h1]; exact m105_ne (by have := hb.1; omega)) ⟨rfl, hX.frT hf1 fr hl⟩
      · unfold J_X6_read
        refine R_keeps hM.1 (fun τ1 hf1 hk1 => ?_)
        have kp : ∀ {ρ' : Mem}, Fr01 τ1 ρ' → ∀ k, k < 214 → ρ' (2, 0, 0) k = nI (d k) := fun h k hk => by rw [h _ (by decide) (by decide) (by decide)]; exact hk1 k hk
        refine R_reads hb g (by rw [hf1 _ (by decide)]; exact hM.2.2.1) (fun i hi => by rw [hf1 _ (by decide)]; exact hM.2.2.2 i hi) (hM.1.row (hf1 _ (by decide))) (fun d' c q ρ' e hc fr hl hv => ?_) (fun f ρ' e fr hl h1 => ?_)
        · rw [eF] at e; cases e
        · exact i0 (by decide) (R_brings (kp fr) (fun τ3 hf3 hr3 => ⟨rfl, hM.fr01 hf1 (fr.tr (Fr01.of1 hf3)) (by rw [hf3 _ (by decide)]; exact hl) hr3⟩))
    | some v =>
      obtain ⟨d', c⟩ := v
      obtain ⟨g', cc⟩ := hgd.2 d' c rfl
      have hI' : Inv (T + 48) d' := Inv.mk g' ((cc T hS.1.cnt).up (by omega) hT)
      refine Agr.to hS d' hI' (nI c) ?_ ?_
      · unfold J_X5_read
        refine C_copyFrom g (by decide) hX.1 (fun τ1 hf1 hr1 => ?_)
        refine C_carryOut hb g (by rw [hf1 _ (by decide)]; exact hX.2.2.1) (fun i hi => by rw [hf1 _ (by decide)]; exact hX.2.2.2 i hi) hr1 (fun d2 c2 q σ' e fr hl h1 h2 hv => ?_) (fun f σ' e fr hl h1 => ?_)
        · rw [eF] at e
          cases e
          refine i1 h1 (C_copyFrom g' (by decide) hv (fun τ4 hf4 hr4 => ?_))
          rw [hf4 _ (by decide), h2]
          exact ⟨rfl, (hX.frT hf1 fr hl).fr0 hf4.fj hr4⟩
        · rw [eF] at e; cases e
      · unfold J_X6_read
        refine R_keeps hM.1 (fun τ1 hf1 hk1 => ?_)
        refine R_reads hb g (by rw [hf1 _ (by decide)]; exact hM.2.2.1) (fun i hi => by rw [hf1 _ (by decide)]; exact hM.2.2.2 i hi) (hM.1.row (hf1 _ (by decide))) (fun d2 c2 q ρ' e hc fr hl hv => ?_) (fun f ρ' e fr hl h1 => ?_)
        · rw [eF] at e
          cases e
          exact i1 (nI_pos' (by omega)) ⟨rfl, hM.fr01 hf1 fr hl hv⟩
        · rw [eF] at e; cases e
end C8
