/-! PART 20: the hour that passes, in the reference and in the class -/
theorem FP_FF {d : Dst} (hT : Topo d) (a : Nat → Nat) {i : Nat} (hi : i < d 1) : FP d a i ≤ FF d a i := by
  rw [FF_fix a hT hi]
  exact infl_ge (hT.2.2.2.1 i hi) _
/-- what a call in state j may change: the flow's objects, and the state's own -/
def FrJ (j : Nat) (τ τ' : Mem) : Prop := ∀ o : Oid, o.1 ≠ 3 → o.1 ≠ 4 → o.1 ≠ 15 → (o.1 < 7 ∨ 14 < o.1 ∨ o.2.1 ≠ j) → τ' o = τ o
theorem FrJ.rf {j : Nat} {τ : Mem} : FrJ j τ τ := fun _ _ _ _ _ => rfl
theorem FrJ.tr {j : Nat} {τ τ' τ'' : Mem} (h : FrJ j τ τ') (h' : FrJ j τ' τ'') : FrJ j τ τ'' := fun o a b c e => (h' o a b c e).trans (h o a b c e)
theorem FrJ.mp {j : Nat} {τ τ' : Mem} (h : FrJ j τ τ') {o : Oid} (ho : o.1 = 3 ∨ o.1 = 4 ∨ o.1 = 15 ∨ 7 ≤ o.1 ∧ o.1 ≤ 14 ∧ o.2.1 = j) (k : Nat) (x : Int32) : FrJ j τ (mup τ' o k x) := fun q a b c e => by
  rw [mup_ne _ _ _ (fun z => by rw [z] at a b c e; omega)]
  exact h q a b c e
theorem C_useWater {T : Nat} {d : Dst} {τ : Mem} {j u a : Nat} {Q : Mem → Prop} (hI : Inv T d) (hv : RepX τ j d) (hu : u < d 2) (ha : a ≤ 560)
    (hQ : ∀ τ' : Mem, (∀ o : Oid, o ≠ (14, j, u) → o ≠ (12, j, 0) → τ' o = τ o) → RepX τ' j (useU d u a) → Q τ') : J_X2_useWater j j u (nI a) τ Q := by
  have hg := hI.geo
  have h1 := hg.nd
  have h2 := hg.nu
  obtain ⟨g1, g2, g3, g4, g5, g6, g7, g8, g9, g10⟩ := hg.ug hu
  have hnl := need_le (hI.2.2.2.2.2.2.2.2.2.2.1 u hu)
  have hus : usd d u a ≤ need d u := Nat.min_le_left _ _
  have husw : usd d u a ≤ wat d u a := Nat.min_le_right _ _
  have hlk2 : lkd d u a ≤ wat d u a - usd d u a := Nat.min_le_right _ _
  have hwat : wat d u a = a + d (154 + u) := rfl
  unfold J_X2_useWater
  refine C_hour hI hv (C_needAt hI hv hu ?_)
  rw [hv.u7 hu, hv.u8 hu, nI_add, ← hwat]
  rintro _ rfl
  rw [nI_min (by omega) (by omega)]
  have eus : min (need d u) (wat d u a) = usd d u a := rfl
  rw [eus]
  rintro _ rfl
  rw [pk_sub husw, nI_min (by omega) (by omega)]
  have elk : min (d (166 + u)) (wat d u a - usd d u a) = lkd d u a := rfl
  rw [elk]
  rintro _ rfl
  rw [pk_sub hlk2, pk_sub hus]
  rintro _ rfl
  have s1 : RepX _ j (du d (154 + u) (wat d u a - usd d u a - lkd d u a)) := hv.setU (f := 7) h1 h2 hu (by decide) (by decide) _
  have e1 : ∀ {k : Nat}, k ≠ 154 + u → du d (154 + u) (wat d u a - usd d u a - lkd d u a) k = d k := fun h => du_ne _ _ h
  have u1 : u < du d (154 + u) (wat d u a - usd d u a - lkd d u a) 2 := by rw [e1 (by omega)]; exact hu
  rw [s1.u10 u1, e1 (by omega), nI_add]
  rintro _ rfl
  have s2 : RepX _ j (us1 d u a) := s1.setU (f := 10) (by rw [e1 (by omega)]; exact h1) (by rw [e1 (by omega)]; exact h2) u1 (by decide) (by decide) _
  have e2 : ∀ {k : Nat}, k ≠ 154 + u → k ≠ 190 + u → us1 d u a k = d k := fun h h' => by unfold us1; rw [du_ne _ _ h', du_ne _ _ h]
  have u2 : u < us1 d u a 2 := by rw [e2 (by omega) (by omega)]; exact hu
  rw [fa_lit 0]
  rintro _ rfl
  have s3 : RepX _ j (du (us1 d u a) (202 + u) 0) := s2.setU (f := 11) (by rw [e2 (by omega) (by omega)]; exact h1) (by rw [e2 (by omega) (by omega)]; exact h2) u2 (by decide) (by decide) _
  have e3 : ∀ {k : Nat}, k ≠ 154 + u → k ≠ 190 + u → k ≠ 202 + u → du (us1 d u a) (202 + u) 0 k = d k := fun h h' h'' => by rw [du_ne _ _ h'', e2 h h']
  generalize hd3 : du (us1 d u a) (202 + u) 0 = d3 at s3 e3
  have b3 : d3 1 ≤ 10 := by rw [e3 (by omega) (by omega) (by omega)]; exact h1
  rw [s3.ac (by decide : 3 < 7), e3 (by omega) (by omega) (by omega), nI_add]
  rintro _ rfl
  have s4 := s3.setA b3 (i := 3) (by decide) (d (5 + 3) + a)
  rw [s4.ac (by decide : 4 < 7), du_ne _ _ (by omega), e3 (by omega) (by omega) (by omega), nI_add]
  rintro _ rfl
  have s5 := s4.setA (by rw [du_ne _ _ (by omega)]; exact b3) (i := 4) (by decide) (d (5 + 4) + usd d u a)
  rw [s5.ac (by decide : 5 < 7), du_ne _ _ (by omega), du_ne _ _ (by omega), e3 (by omega) (by omega) (by omega), nI_add]
  rintro _ rfl
  have s6 := s5.setA (by rw [du_ne _ _ (by omega), du_ne _ _ (by omega)]; exact b3) (i := 5) (by decide) (d (5 + 5) + lkd d u a)
  rw [s6.ac (by decide : 6 < 7), du_ne _ _ (by omega), du_ne _ _ (by omega), du_ne _ _ (by omega), e3 (by omega) (by omega) (by omega), nI_add]
  rintro _ rfl
  have s7 := s6.setA (by rw [du_ne _ _ (by omega), du_ne _ _ (by omega), du_ne _ _ (by omega)]; exact b3) (i := 6) (by decide) (d (5 + 6) + (need d u - usd d u a))
  have ef : du (du (du (du d3 (5 + 3) (d (5 + 3) + a)) (5 + 4) (d (5 + 4) + usd d u a)) (5 + 5) (d (5 + 5) + lkd d u a)) (5 + 6) (d (5 + 6) + (need d u - usd d u a)) = useU d u a := by
    rw [← hd3]
    unfold useU
    rw [du_comm (a := 11) (b := 202 + u) _ _ _ (by omega), du_comm (a := 10) (b := 202 + u) _ _ _ (by omega), du_comm (a := 9) (b := 202 + u) _ _ _ (by omega), du_comm (a := 8) (b := 202 + u) _ _ _ (by omega)]
  rw [ef] at s7
  refine hQ _ (fun o q1 q2 => ?_) s7
  rw [mup_ne _ _ _ q2, mup_ne _ _ _ q2, mup_ne _ _ _ q2, mup_ne _ _ _ q2, mup_ne _ _ _ q1, mup_ne _ _ _ q1, mup_ne _ _ _ q1]
theorem C_passHour {T : Nat} {d : Dst} {τ : Mem} {j : Nat} {Q : Int32 → Mem → Prop} (hI : Inv T d) (hT1 : T + 1 ≤ 30000) (hv : RepX τ j d)
    (hQ : ∀ τ' : Mem, FrJ j τ τ' → RepX τ' j (pass d) → Q (nI (pass d 11) - nI (d 11)) τ') : J_X2_passHour j τ Q := by
  obtain ⟨hT, hN, hn, h3, h4, h0, hTT, hA, hS, hG, hU, hR⟩ := id hI
  have hok := amt_ok hT hR
  have hask : ∀ v, v < d 2 → ask d v ≤ 560 := fun v hv => ask_le (hU v hv)
  unfold J_X2_passHour pass at *
  refine C_distribute hI hv (fun τ1 hf1 hv1 hF1 => ?_)
  obtain ⟨k6, k7, k8, k9, -⟩ := hF1
  generalize amt d = a at *
  have hau : ∀ v, v < d 2 → a v ≤ 560 := fun v hv => Nat.le_trans (hok.2 v hv) (hask v hv)
  have hfr1 : FrJ j τ τ1 := fun o q1 q2 q3 _ => hf1 o q1 q2 q3
  have hF0 : FF d a 0 ≤ sup d := hok.1.2
  rw [hv1.ac (by decide : 6 < 7), hv1.ac (by decide : 0 < 7), k8 0 hT.1, nI_add]
  rintro _ rfl _ rfl
  have r5 : RepX _ j (du d 5 (d 5 + FF d a 0)) := hv1.setA hN (i := 0) (by decide) (d (5 + 0) + FF d a 0)
  have hI5 : Inv T d := hI
  -- the supply is read in the changed state: its account is another, its hour and supply are the same
  have supq : ∀ Q' : Int32 → Mem → Prop, Q' (nI (sup d)) (mup τ1 (12, j, 0) 0 (nI (d (5 + 0) + FF d a 0))) → J_X2_supplyNow j (mup τ1 (12, j, 0) 0 (nI (d (5 + 0) + FF d a 0))) Q' := by
    intro Q' hq
    have hh := hr_lt d
    unfold J_X2_supplyNow J_X2_hourOfDay
    rw [r5.tm, du_ne _ _ (by omega), fa_lit 24]
    refine C_floorMod (by omega) (by decide) (by decide) ⟨vp_in_nI hh (by decide), ?_⟩
    have eh : d 0 % 24 = hr d := rfl
    rw [eh, nI_clamp (by omega), r5.sp hh, du_ne _ _ (by omega)]
    exact hq
  refine supq _ ?_
  have e8 : mup τ1 (12, j, 0) 0 (nI (d (5 + 0) + FF d a 0)) (15, 0, 0) 0 = nI (FF d a 0) := by
    rw [mup_k _ _ _ (by decide : (15 : Nat) ≠ 12)]
    exact k8 0 hT.1
  rw [e8, r5.ac (by decide : 1 < 7), du_ne _ _ (by omega), pk_sub hF0, nI_add]
  rintro _ rfl
  have r6 : RepX _ j (hb0 d a) := r5.setA (by rw [du_ne _ _ (by omega)]; exact hN) (i := 1) (by decide) (d (5 + 1) + (sup d - FF d a 0))
  have hfr6 : FrJ j τ (mup (mup τ1 (12, j, 0) 0 (nI (d (5 + 0) + FF d a 0))) (12, j, 0) 1 (nI (d (5 + 1) + (sup d - FF d a 0)))) := (hfr1.mp (Or.inr (Or.inr (Or.inr ⟨Nat.le_of_ble_eq_true rfl, Nat.le_of_ble_eq_true rfl, rfl⟩))) _ _).mp (Or.inr (Or.inr (Or.inr ⟨Nat.le_of_ble_eq_true rfl, Nat.le_of_ble_eq_true rfl, rfl⟩))) _ _
  have fl6 : ∀ o : Oid, o.1 ≠ 12 → mup (mup τ1 (12, j, 0) 0 (nI (d (5 + 0) + FF d a 0))) (12, j, 0) 1 (nI (d (5 + 1) + (sup d - FF d a 0))) o = τ1 o := fun o h => by rw [mup_o _ _ _ h, mup_o _ _ _ h]
  refine lpM (d 1) (by omega) (fun m τ' => (∀ o : Oid, o.1 < 7 ∨ 14 < o.1 → τ' o = τ1 o) ∧ FrJ j τ τ' ∧ RepX τ' j (hb d a m)) ⟨fun o h => fl6 o (by omega), hfr6, ?_⟩ (fun m τ7 I μ hm hP next => ?_)
  · have e : hb d a 0 = hb0 d a := by
      unfold hb
      have : hb0 d a 7 = d 7 := by unfold hb0; rw [du_ne _ _ (by omega), du_ne _ _ (by omega)]
      show du (hb0 d a) 7 (d 7 + 0) = _
      rw [← this]
      exact du_id _ _
    rw [e]
    exact r6
  obtain ⟨hf7, hfr7, hv7⟩ := hP
  rw [hv7.nd, hb_ne (by omega)]
  refine br_le (by omega) (by omega) (fun hle => ?_) (fun hlt => ?_)
  · have hmm : m = d 1 := by omega
    subst hmm
    refine lpM (d 2) (by omega) (fun m τ' => (∀ o : Oid, o.1 < 7 ∨ 14 < o.1 → τ' o = τ1 o) ∧ FrJ j τ τ' ∧ RepX τ' j (psU d a m)) ⟨hf7, hfr7, hv7⟩ (fun m τ9 I9 μ9 hm hP9 next9 => ?_)
    obtain ⟨hf9, hfr9, hv9⟩ := hP9
    rw [hv9.nu, psU_lo (by omega) (by omega)]
    refine br_le (by omega) (by omega) (fun hle2 => ?_) (fun hlt2 => ?_)
    · have hmm : m = d 2 := by omega
      subst hmm
      rw [hv9.tm, psU_lo (by omega) (by omega), nI_1]
      rintro _ rfl
      have s := hv9.setT (d 0 + 1)
      rw [s.ac (by decide : 6 < 7)]
      exact hQ _ (hfr9.mp (Or.inr (Or.inr (Or.inr ⟨Nat.le_of_ble_eq_true rfl, Nat.le_of_ble_eq_true rfl, rfl⟩))) _ _) s
    · have hI9 := psU_inv hI hT1 hok (m := m) (by omega)
      have hm2 : m < psU d a m 2 := by rw [psU_lo (by omega) (by omega)]; exact hlt2
      have e7 : τ9 (4, 1, 0) m = nI (a m) := by rw [hf9 _ (by decide)]; exact k7 m hlt2
      rw [nI_clamp (by omega), e7]
      refine ⟨vp_in_nI (by omega) (by decide), vp_in_nI (by omega) (by decide), ?_⟩
      refine C_useWater hI9 hv9 hm2 (hau m hlt2) (fun τ13 hf13 hv13 => ?_)
      rintro _ rfl
      rw [nI_1]
      refine next9 hlt2 _ ⟨fun o h => ?_, fun o q1 q2 q3 q4 => ?_, hv13⟩
      · rw [hf13 o (fun z => by rw [z] at h; revert h; show ¬ (14 < 7 ∨ 14 < 14); decide) (fun z => by rw [z] at h; revert h; show ¬ (12 < 7 ∨ 14 < 12); decide)]
        exact hf9 o h
      · rw [hf13 o (fun z => by rw [z] at q4; revert q4; show ¬ (14 < 7 ∨ 14 < 14 ∨ j ≠ j); omega) (fun z => by rw [z] at q4; revert q4; show ¬ (12 < 7 ∨ 14 < 12 ∨ j ≠ j); omega)]
        exact hfr9 o q1 q2 q3 q4
  · have q7 : hb d a m 7 = d 7 + sm (loss d a) m := by
      unfold hb
      rw [du_self]
    have e8 : τ7 (15, 0, 0) m = nI (FF d a m) := by rw [hf7 _ (by decide)]; exact k8 m hlt
    have e9 : τ7 (15, 1, 0) m = nI (FP d a m) := by rw [hf7 _ (by decide)]; exact k9 m hlt
    have hle := FP_FF hT a hlt
    unfold J_X1_lostIn
    rw [nI_clamp (by omega), e8, e9, pk_sub hle, hv7.ac (by decide : 2 < 7)]
    refine ⟨vp_in_nI (by omega) (by decide), vp_in_nI (by omega) (by decide), ?_⟩
    have q77 : hb d a m (5 + 2) = d 7 + sm (loss d a) m := q7
    dsimp only
    rw [q77, nI_add]
    rintro _ rfl _ rfl
    rw [nI_1]
    have s := hv7.setA (by rw [hb_ne (by omega)]; exact hN) (i := 2) (by decide) (d 7 + sm (loss d a) m + (FF d a m - FP d a m))
    refine next hlt _ ⟨fun o h => ?_, hfr7.mp (Or.inr (Or.inr (Or.inr ⟨Nat.le_of_ble_eq_true rfl, Nat.le_of_ble_eq_true rfl, rfl⟩))) _ _, ?_⟩
    · rw [mup_o _ _ _ (by omega : o.1 ≠ 12)]
      exact hf7 o h
    · have e : hb d a (m + 1) = du (hb d a m) (5 + 2) (d 7 + sm (loss d a) m + (FF d a m - FP d a m)) := by
        unfold hb
        rw [du_du, Nat.add_assoc]
        rfl
      rw [e]
      exact s
