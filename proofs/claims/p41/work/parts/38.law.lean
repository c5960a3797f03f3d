/-! PART 38: the law answers 1 -/
section LA
variable {T : Nat} {σ E : Mem} {d : Dst} {b : Nat → Nat} {ds : Nat → Dst} {Q : Int32 → Mem → Prop} {w2 : Nat} {L : Nat} {xs : Nat → Int32}
theorem l411 (hI : Inv T d) (hX : WZ σ d b ds E) (hQ : ∀ σ' : Mem, Q 1 σ') : J_L_law_b411 L xs (csum d) 1 σ Q := by
  unfold J_L_law_b411
  exact ⟨fun z => absurd z (by decide), fun _ => K_checksum hI hX (fun τ1 X1 => ⟨fun z => absurd (cmp_self _) z, fun _ => hQ _⟩)⟩
theorem adv_pos (hI : Inv T d) (hb : Bal d) {k T' : Nat} (hk : T + k ≤ 30000) (hI' : Inv T' (psn d k)) : ¬ nI (psn d k 11) - nI (d 11) < 0 := by
  have h := (psn_bal hI hb hk).2.1
  have h2 := hI'.2.2.2.2.2.2.2.1 6 (by omega)
  have h3 := hI'.2.2.2.2.2.2.1
  have h4 : psn d k (5 + 6) = psn d k 11 := rfl
  rw [pk_sub h]
  exact nI_pos (by omega)
theorem l335 (hI : Inv 8 d) (hX : WZ σ d b ds E) (hL : Lk E d w2) (h8 : d 0 = 8) (hb : Bal d) (hQ : ∀ σ' : Mem, Q 1 σ') : J_L_law_b335 L xs 1 σ Q := by
  unfold J_L_law_b335
  refine K_checksum hI hX (fun τ1 X1 => ⟨fun z => absurd z (by decide), fun _ => ?_⟩)
  refine K_save (v := 0) hI X1 (by decide) (fun τ2 X2 => ?_)
  rw [h8]
  refine ⟨fun z => absurd rfl z, fun _ => ?_⟩
  refine K_advance (v := 5) hI X2 (by decide) (by decide) (by decide) (fun τ3 I3 Z3 => ⟨fun z => absurd z (adv_pos hI hb (by decide) I3), fun _ => ?_⟩)
  refine K_sound I3 Z3 (hL.sm (psn_sm hI 5)) (fun τ4 Z4 => ⟨fun z => absurd z (by decide), fun _ => ?_⟩)
  refine K_account (v := 0) Z4 (by decide) (K_account (v := 2) Z4 (by decide) (K_account (v := 3) Z4 (by decide) ?_))
  have hb5 : psn d 5 (5 + 0) = psn d 5 (5 + 2) + psn d 5 (5 + 3) := (psn_bal hI hb (k := 5) (by decide)).1
  rw [nI_add, ← hb5]
  refine ⟨fun z => absurd rfl z, fun _ => ?_⟩
  refine K_restore (v := 0) (T' := 8) Z4 (by decide) (if_pos rfl) hI (fun τ5 Z5 => ?_)
  have Z6 : WZ τ5 d (fun q => if q = 0 then 1 else b q) (fun q => if q = 0 then d else ds q) E := Z5
  rw [show ((if (0 : Nat) = 0 then d else ds 0) 0) = 8 from h8]
  exact ⟨fun z => absurd rfl z, fun _ => l411 hI Z6 hQ⟩
theorem l289 (hI : Inv 8 d) (hX : WZ σ d b ds E) (hL : Lk E d w2) (h3 : d 3 = 1) (h8 : d 0 = 8) (hb : Bal d) {w3 : Nat} (e3 : E (18, 0, 0) 3 = nI w3) (hQ : ∀ σ' : Mem, Q 1 σ') : J_L_law_b289 L xs 1 (nI w3) σ Q := by
  unfold J_L_law_b289
  refine ⟨fun z => absurd z (by decide), fun _ => K_setRule (v := 2) hI hX (by decide) (fun τ1 I1 Z1 => ?_)⟩
  rw [h3]
  refine ⟨fun z => absurd rfl z, fun _ => ?_⟩
  have L1 : Lk E (du d 3 2) w2 := hL.sm (Sm.du (by omega))
  refine K_sound I1 Z1 L1 (fun τ2 Z2 => ⟨fun z => absurd z (by decide), fun _ => ?_⟩)
  refine K_settle I1 Z2 (fun τ3 I3 Z3 => ?_)
  obtain ⟨D, hD⟩ : ∃ D : Dst, D = du d 3 2 := ⟨_, rfl⟩
  rw [← hD] at I1 L1 I3 Z3 ⊢
  have hn := L1.2.1
  have hc := (outr_ne (n := D 2) (i := 0) (by omega) (f := D 2) (k := 0) (s := (D, 0))).2
  have hc2 : D 2 * D 2 ≤ 6 * 6 := Nat.mul_le_mul hn.2.2.1 hn.2.2.1
  have hc3 : (outr (D 2) (D 2) 0 (D, 0)).2 ≤ 36 := by
    have : (outr (D 2) (D 2) 0 (D, 0)).2 ≤ 0 + D 2 * D 2 := hc
    omega
  have he : ∀ i, i < 202 → (outr (D 2) (D 2) 0 (D, 0)).1 i = D i := fun i hi => (outr_ne (n := D 2) hi (f := D 2) (k := 0) (s := (D, 0))).1
  have hDi : ∀ i, i ≠ 3 → D i = d i := fun i hi => by rw [hD]; exact du_ne _ _ hi
  refine ⟨fun z => absurd z (nI_pos (by omega)), fun _ => ?_⟩
  rw [Z3.2.2 (18, 0, 0) (by decide), e3]
  refine ⟨fun z => absurd rfl z, fun _ => ?_⟩
  refine l335 I3 Z3 (L1.sm (fun i hi => he i (by omega))) ?_ ?_ hQ
  · rw [he 0 (by omega), hDi 0 (by omega)]
    exact h8
  · unfold Bal at hb ⊢
    rw [he 5 (by omega), he 7 (by omega), he 8 (by omega), hDi 5 (by omega), hDi 7 (by omega), hDi 8 (by omega)]
    exact hb
theorem l253 (hI : Inv T d) (hX : WZ σ d b ds E) (hb : Bal d) (hT : T + 48 ≤ 30000) {k : Nat} (hk : d 0 = k) {b7 r6 b11 : Int32} {K : Int32 → Int32 → Int32 → Mem → Prop} (hK : ∀ σ' : Mem, Inv (T + 1) (psn d 1) → WZ σ' (psn d 1) b ds E → K 1 b11 (nI (k + 1)) σ') : J_L_law_b253 L xs b7 r6 K (nI k) b11 σ Q := by
  unfold J_L_law_b253
  refine K_advance (v := 1) hI hX (by decide) (by decide) hT (fun τ1 I1 Z1 => ⟨fun z => absurd z (adv_pos hI hb (by omega) I1), fun _ => ?_⟩)
  refine K_time Z1 ?_
  rw [(psn_bal hI hb (k := 1) (by omega)).2.2, hk, nI_1]
  refine ⟨fun z => absurd rfl z, fun _ => ?_⟩
  rintro _ rfl
  exact hK _ I1 Z1
theorem l232 (hI : Inv T d) (hX : WZ σ d b ds E) (hb : Bal d) (hT : T + 48 ≤ 30000) {k all : Nat} (hk : d 0 = k) (hk8 : k < 8) (hall : all < 2 ^ 30) {r6 b9 b11 : Int32} {K : Int32 → Int32 → Int32 → Mem → Prop} (hm : all ≠ 0 → k < all → ¬ b11 < b9) (hK : ∀ σ' : Mem, Inv (T + 1) (psn d 1) → WZ σ' (psn d 1) b ds E → K 1 b11 (nI (k + 1)) σ') : J_L_law_b232 L xs (nI all) r6 K b9 (nI k) b11 σ Q := by
  unfold J_L_law_b232
  have fin : J_L_law_b253 L xs (nI all) r6 (fun z0 z1 z2 z3 => K z0 z1 z2 z3) (nI k) b11 σ Q := l253 hI hX hb hT hk hK
  refine ⟨fun _ => fin, fun hz => K_time hX ?_⟩
  rw [hk]
  refine br_le (by omega) (by omega) (fun _ => fin) (fun hlt => ⟨fun z => ?_, fun _ => fin⟩)
  exact absurd z (hm (fun q => hz (by rw [q]; exact nI_0)) hlt)
theorem l161 (hI : Inv 0 d) (hX : WZ σ d b ds E) (hL : Lk E d w2) (c0 : d 0 = 0) (hb : Bal d) (e3 : E (18, 0, 0) 3 = nI (d 3)) (hQ : ∀ σ' : Mem, Q 1 σ') : J_L_law_b161 L xs 1 (nI (tsum d (d 2))) σ Q := by
  have hn := hL.2.1
  have hall : tsum d (d 2) ≤ 24 * d 2 := tsum_le (m := d 2) (fun u hu => (hI.geo.ug hu).2.2.2.2.2.2.2.2.1) (d 2) (Nat.le_refl _)
  unfold J_L_law_b161
  refine K_setRule (v := 1) hI hX (by decide) (fun τ0 I0 Z0 => ?_)
  refine lq3 8 (by decide) (fun k x y τ => x = 1 ∧ ∃ d' : Dst, Inv k d' ∧ WZ τ d' b ds E ∧ Sm d d' ∧ d' 3 = 1 ∧ d' 0 = k ∧ Bal d' ∧ (∀ u, u < 12 → d' (178 + u) = d (178 + u)) ∧ (k = 0 ∧ y = -1 ∨ ∃ j, k = j + 1 ∧ y = if tsum d (d 2) = 0 then -105 else nI (tv d j))) ⟨rfl, du d 3 1, I0, Z0, Sm.du (by omega), du_self _ _ _, by rw [du_ne _ _ (by omega)]; exact c0, ?_, fun u hu => du_ne _ _ (by omega), Or.inl ⟨rfl, rfl⟩⟩ (fun k x y τ I μ hk hP next => ?_)
  · unfold Bal at hb ⊢
    rw [du_ne _ _ (by omega), du_ne _ _ (by omega), du_ne _ _ (by omega)]
    exact hb
  · obtain ⟨rfl, d', I', Z', s', h3', h0', hb', ht', hy⟩ := hP
    have L' := hL.sm s'
    have e2 : d' 2 = d 2 := s' 2 (by omega)
    rw [show (8 : Int32) = nI 8 from rfl]
    refine br_le (by decide) (by omega) (fun hle => ?_) (fun hlt => ⟨fun z => absurd z (by decide), fun _ => ?_⟩)
    · have : k = 8 := by omega
      subst this
      exact l289 I' Z' L' h3' h0' hb' e3 hQ
    · refine K_turn I' Z' ?_
      have et := turn_at (d := d) (d' := d') (by omega) h3' e2 (fun u hu => ht' u (by omega))
      rw [h0'] at et
      refine K_sound I' Z' L' (fun τ1 Z1 => ⟨fun z => absurd z (by decide), fun _ => ?_⟩)
      have nx : ∀ (y' : Int32) (σ' : Mem), y' = (if tsum d (d 2) = 0 then (-105 : Int32) else nI (tv d k)) → Inv (k + 1) (psn d' 1) → WZ σ' (psn d' 1) b ds E → I 1 y' (nI (k + 1)) σ' ∧ μ 1 y' (nI (k + 1)) σ' < μ 1 y (nI k) τ := by
        intro y' σ' hy' I2 Z2
        refine next hlt 1 y' σ' ⟨rfl, psn d' 1, I2, Z2, s'.tr (psn_sm I' 1), by rw [psn_3 I']; exact h3', by rw [(psn_bal I' hb' (k := 1) (by omega)).2.2, h0'], (psn_bal I' hb' (k := 1) (by omega)).1, fun u hu => by rw [psn_178 I' 1 hu]; exact ht' u hu, Or.inr ⟨k, rfl, hy'⟩⟩
      have mono : tsum d (d 2) ≠ 0 → k < tsum d (d 2) → ¬ turnC d' < y := by
        intro hz hka
        rw [et, if_neg hz]
        have h1 := (tv_lt d k hz).1
        rcases hy with ⟨-, rfl⟩ | ⟨j, rfl, rfl⟩
        · intro q
          rw [Int32.lt_iff_toInt_lt, nI_toInt (by omega)] at q
          have : (-1 : Int32).toInt = -1 := by decide
          omega
        · rw [if_neg hz]
          have h2 := tv_mono (d := d) (t := j) hz hka
          exact nI_nlt h2 (by omega)
      by_cases hz : tsum d (d 2) = 0
      · have et' : turnC d' = -105 := by rw [et, if_pos hz]
        refine ⟨fun z => absurd (by rw [hz]; exact nI_0) z, fun _ => ⟨fun z => absurd et' z, fun _ => ?_⟩⟩
        exact l232 I' Z1 hb' (by omega) h0' hlt (by omega) mono (fun σ' I2 Z2 => nx _ σ' et I2 Z2)
      · have h1 := (tv_lt d k hz).1
        have et' : turnC d' = nI (tv d k) := by rw [et, if_neg hz]
        refine ⟨fun _ => ?_, fun z => absurd ((nI_eq (b := 0) (by omega) (by decide)).mp z) hz⟩
        refine ⟨fun z => absurd z (by rw [et']; exact nI_pos (by omega)), fun _ => ?_⟩
        rw [Z1.2.2 (18, 0, 0) (by decide), L'.1.2.1]
        refine ⟨fun z => absurd z (by rw [et', e2]; exact nI_ge h1 (by omega)), fun _ => ?_⟩
        exact l232 I' Z1 hb' (by omega) h0' hlt (by omega) mono (fun σ' I2 Z2 => nx _ σ' et I2 Z2)
theorem hours_at {y k : Nat} (hy : y < 2 ^ 31) (hk : k < 6) : ∃ h, h ≤ 3 ∧ (nI y >>> (((2 * nI k) : Int32) &&& 31) : Int32) - (nI y >>> (((2 * nI k) : Int32) &&& 31) : Int32) / 4 * 4 = nI h := by
  refine ⟨y / 2 ^ (2 * k) % 4, Nat.le_of_lt_succ (Nat.mod_lt _ (by decide)), ?_⟩
  have hs : (((2 * nI k : Int32) &&& 31).toBitVec.smod 32).toNat = 2 * k := by
    rcases (by omega : k = 0 ∨ k = 1 ∨ k = 2 ∨ k = 3 ∨ k = 4 ∨ k = 5) with rfl | rfl | rfl | rfl | rfl | rfl <;> decide +kernel
  exact shm hy (2 * nI k) (2 * k) 4 hs (by decide) (by decide)
theorem l89 (hI : Inv 0 d) (hX : WZ σ d b ds E) (hL : Lk E d w2) (c0 : d 0 = 0) (hb : Bal d) (e3 : E (18, 0, 0) 3 = nI (d 3)) (ht : ∀ u, u < d 2 → d (178 + u) = 0) (hLn : L ≤ 260) (hQ : ∀ σ' : Mem, Q 1 σ') : J_L_law_b89 L xs 1 σ Q := by
  have hn := hL.2.1
  unfold J_L_law_b89
  refine K_cell (k := 11) hLn (by decide) (fun y hy => ?_)
  refine lq3 (d 2) (by omega) (fun k x z τ => x = 1 ∧ ∃ d' : Dst, Inv 0 d' ∧ WZ τ d' b ds E ∧ Sm d d' ∧ d' 3 = d 3 ∧ d' 0 = 0 ∧ Bal d' ∧ z = nI (tsum d' k) ∧ ∀ u, k ≤ u → u < d 2 → d' (178 + u) = 0) ⟨rfl, d, hI, hX, Sm.rf d, rfl, c0, hb, rfl, fun u _ hu => ht u hu⟩ (fun k x z τ I μ hk hP next => ?_)
  obtain ⟨rfl, d', I', Z', s', h3', h0', hb', rfl, ht'⟩ := hP
  have L' := hL.sm s'
  have e2 : d' 2 = d 2 := s' 2 (by omega)
  rw [Z'.2.2 (18, 0, 0) (by decide), L'.1.2.1, e2]
  refine br_le (by omega) (by omega) (fun hle => ?_) (fun hlt => ⟨fun z => absurd z (by decide), fun _ => ?_⟩)
  · have : k = d' 2 := by omega
    subst this
    exact l161 I' Z' L' h0' hb' (by rw [h3']; exact e3) hQ
  · obtain ⟨h, hh, eh⟩ := hours_at hy (show k < 6 by omega)
    rw [eh]
    rintro _ rfl _ rfl
    refine K_setTurn (u := k) (v := h) I' Z' (by omega) (by omega) (fun σ' I2 Z2 => ?_)
    rw [ht' k (Nat.le_refl _) hlt]
    refine ⟨fun z => absurd rfl z, fun _ => ?_⟩
    rintro _ rfl
    rw [nI_1, nI_add]
    refine next hlt _ _ _ ⟨rfl, du d' (178 + k) h, I2, Z2, s'.tr (Sm.du (by omega)), by rw [du_ne _ _ (by omega)]; exact h3', by rw [du_ne _ _ (by omega)]; exact h0', ?_, ?_, fun u q1 q2 => by rw [du_ne _ _ (by omega)]; exact ht' u (by omega) q2⟩
    · unfold Bal at hb' ⊢
      rw [du_ne _ _ (by omega), du_ne _ _ (by omega), du_ne _ _ (by omega)]
      exact hb'
    · show _ = nI (tsum (du d' (178 + k) h) k + du d' (178 + k) h (178 + k))
      rw [du_self, tsum_cg (fun u hu => du_ne _ _ (by omega))]
/-- THE LAW ANSWERS 1 -/
theorem K_law (hI : Inv 0 d) (hX : WZ σ d (fun _ => 0) ds E) (c0 : d 0 = 0) (c1 : d 1 = 1) (c2 : d 2 = 0) (c3 : d 3 = 0) (cs : ∀ i, i < 7 → d (5 + i) = 0) (c12 : d 12 = 100) (c50 : d 50 = 100) (hLn : L ≤ 260) (hQ : ∀ σ' : Mem, Q 1 σ') : J_L_law L xs σ Q := by
  unfold J_L_law
  refine K_restore_n (v := 1) hX (by decide) rfl ⟨fun z => absurd rfl z, fun _ => K_turn hI hX ?_⟩
  have et : turnC d = -105 := by unfold turnC; rw [if_pos (tnow_0 c3)]
  refine ⟨fun z => absurd et z, fun _ => ?_⟩
  refine K_builds hI hX c0 c1 c2 c3 cs c12 c50 hLn (fun σ1 d1 E1 N M v2 I1 Z1 B1 n1 n2 => ⟨fun z => absurd z (by decide), fun _ => ?_⟩)
  obtain ⟨⟨a0, a1, a2, a3⟩, hbd, hs, hd, hu, h0, hac, ht, -, -⟩ := B1
  have L1 : Lk E1 d1 v2 := ⟨⟨by rw [n1]; exact a0, by rw [n2]; exact a1, a2⟩, by omega, hs, hd, hu⟩
  refine K_sound I1 Z1 L1 (fun σ2 Z2 => ⟨fun z => absurd z (by decide), fun _ => ?_⟩)
  refine K_eldest I1 Z2 L1 (fun σ3 Z3 => ⟨fun z => absurd z (by decide), fun _ => ?_⟩)
  refine K_refuses I1 Z3 L1 (fun σ4 Z4 => ⟨fun z => absurd z (by decide), fun _ => ?_⟩)
  refine l89 I1 Z4 L1 h0 ?_ a3 ht hLn hQ
  have b5 : d1 5 = 0 := hac 0 (by omega)
  have b7 : d1 7 = 0 := hac 2 (by omega)
  have b8 : d1 8 = 0 := hac 3 (by omega)
  unfold Bal
  omega
end LA
