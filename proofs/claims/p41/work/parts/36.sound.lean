/-! PART 36: a district is sound -/
/-- what the law's arrays hold of a district -/
def Lk (E : Mem) (d : Dst) (w2 : Nat) : Prop := (E (18, 0, 0) 0 = nI (d 1) ∧ E (18, 0, 0) 1 = nI (d 2) ∧ E (18, 0, 0) 2 = nI w2) ∧ (d 1 ≤ 5 ∧ 1 ≤ d 2 ∧ d 2 ≤ 6 ∧ w2 ≤ 119) ∧ (∀ h, h < 24 → d (12 + h) = w2) ∧ (∀ k, k < d 1 → E (16, 0, 0) (3 * k + 1) = nI (d (50 + k)) ∧ E (16, 0, 0) (3 * k + 2) = nI (d (60 + k))) ∧ ∀ u, u < d 2 → E (17, 0, 0) (5 * u + 1) = nI (d (82 + u))
theorem Lk.sm {E : Mem} {d d' : Dst} {w2 : Nat} (h : Lk E d w2) (s : Sm d d') : Lk E d' w2 := by
  obtain ⟨⟨a0, a1, a2⟩, hb, hs, hd, hu⟩ := h
  have e1 := s 1 (by omega)
  have e2 := s 2 (by omega)
  refine ⟨⟨by rw [e1]; exact a0, by rw [e2]; exact a1, a2⟩, by rw [e1, e2]; exact hb, fun h hh => by rw [s _ (by omega)]; exact hs h hh, fun k hk => ?_, fun u hq => ?_⟩
  · rw [e1] at hk
    rw [s (50 + k) (by omega), s (60 + k) (by omega)]
    exact hd k hk
  · rw [e2] at hq
    rw [s (82 + u) (by omega)]
    exact hu u hq
section SO
variable {T : Nat} {σ E : Mem} {d : Dst} {b : Nat → Nat} {ds : Nat → Dst} {Q : Int32 → Mem → Prop} {w2 : Nat} {K : Int32 → Int32 → Int32 → Mem → Prop} {b4 b5 b8 t : Int32}
theorem s_older (hI : Inv T d) (hX : WZ σ d b ds E) (hL : Lk E d w2) {a c : Nat} (ha : a < d 2) (hc : c < d 2) (h : older d a c) (hQ : Q 1 σ) : J_L_older (nI a) (nI c) σ Q := by
  have hn := hL.2.1
  have g1 := (hI.geo.ug ha).1
  have g2 := (hI.geo.ug hc).1
  have ma : (5 : Int32) * nI a = nI (5 * a) := pk_mul 5 a
  have mc : (5 : Int32) * nI c = nI (5 * c) := pk_mul 5 c
  have ia : nI (5 * a) + 1 = nI (5 * a + 1) := nI_add _ 1
  have ic : nI (5 * c) + 1 = nI (5 * c + 1) := nI_add _ 1
  unfold J_L_older
  rw [ma, mc, ia, ic, nI_clamp (n := 5 * a + 1) (by omega), nI_clamp (n := 5 * c + 1) (by omega), hX.2.2 (17, 0, 0) (by decide), hL.2.2.2.2 a ha, hL.2.2.2.2 c hc]
  refine ⟨vp_in_nI (by omega) (by decide), vp_in_nI (by omega) (by decide), ?_⟩
  refine br_lt (by omega) (by omega) (fun _ => hQ) (fun q => ⟨vp_in_nI (by omega) (by decide), vp_in_nI (by omega) (by decide), ?_⟩)
  refine br_ne (by omega) (by omega) (fun e => ?_) (fun e => ?_)
  · refine br_le (by omega) (by omega) (fun z => ?_) (fun _ => hQ)
    rcases h with h | h <;> omega
  · rcases h with h | h <;> omega
theorem s249 (hI : Inv T d) (hX : WZ σ d b ds E) (hL : Lk E d w2) {k : Nat} (hk : k < d 2) (hK : ∀ σ' : Mem, WZ σ' d b ds E → K b5 1 (nI (k + 1)) σ') : J_L_sound_b249 b4 K b5 (nI k) 1 σ Q := by
  have hn := hL.2.1
  unfold J_L_sound_b249
  refine ⟨fun z => absurd z (by decide), fun _ => ⟨fun _ => ?_, fun z => ?_⟩⟩
  · rintro _ rfl
    rw [nI_1]
    exact hK _ hX
  · cases k with
    | zero => exact absurd (show nI 0 = 0 from nI_0) z
    | succ j =>
      rw [nI_pred]
      refine K_userByAge hI hX (by omega) (K_userByAge hI hX hk ?_)
      have hR := hI.geo.2.2.2.2.2.2.2.2
      refine s_older hI hX hL (hR j (by omega)).1 (hR (j + 1) hk).1 (rk_older hR (Nat.lt_succ_self j) hk) ?_
      refine ⟨fun z => absurd z (by decide), fun _ => ?_⟩
      rintro _ rfl
      rw [nI_1]
      exact hK _ hX
theorem s211 (hX : WZ σ d b ds E) (hL : Lk E d w2) {b7 : Int32} (h8 : b8 = -103 ∨ b8 = -105 ∨ ∃ v, v < d 1 ∧ b8 = nI v) (fin : J_L_sound_b249 b4 K b5 b7 1 σ Q) : J_L_sound_b211 b4 K b5 b7 b8 t t σ Q := by
  have hn := hL.2.1
  unfold J_L_sound_b211
  rw [hX.2.2 (18, 0, 0) (by decide), hL.1.1]
  refine ⟨fun z => absurd rfl z, fun _ => ?_⟩
  rcases h8 with rfl | rfl | ⟨v, hv, rfl⟩
  · exact ⟨fun z => absurd z (by decide), fun _ => ⟨fun _ => fin, fun z => absurd rfl z⟩⟩
  · exact ⟨fun z => absurd z (by decide), fun _ => ⟨fun z => absurd z (by decide), fun _ => ⟨fun z => absurd rfl z, fun _ => fin⟩⟩⟩
  · exact ⟨fun _ => br_le (by omega) (by omega) (fun z => absurd z (by omega)) (fun _ => fin), fun z => absurd (nI_pos' (by omega)) z⟩
theorem s171 (hI : Inv T d) (hX : WZ σ d b ds E) (hL : Lk E d w2) {k : Nat} (hk : k < d 2) (h8 : b8 = -103 ∧ t = 1 ∨ (b8 = -105 ∨ ∃ v, v < d 1 ∧ b8 = nI v) ∧ t = 0) (hK : ∀ σ' : Mem, WZ σ' d b ds E → K b5 1 (nI (k + 1)) σ') : J_L_sound_b171 b4 K b5 (nI k) b8 t σ Q := by
  have hn := hL.2.1
  have hok := amt_ok hI.1 hI.geo.2.2.2.2.2.2.2.2
  have h1 := hok.2 k hk
  have h2 := ask_le (hI.2.2.2.2.2.2.2.2.2.2.1 k hk)
  unfold J_L_sound_b171
  refine K_gets hI hX hk (fun τ1 X1 => ⟨fun z => absurd z (nI_pos (by omega)), fun _ => ?_⟩)
  refine K_gets hI X1 hk (fun τ2 X2 => K_asks hI X2 hk ?_)
  refine br_lt (by omega) (by omega) (fun z => absurd z (by omega)) (fun _ => ?_)
  rcases h8 with ⟨rfl, rfl⟩ | ⟨h8, rfl⟩
  · exact ⟨fun z => absurd rfl z, fun _ => s211 X2 hL (Or.inl rfl) (s249 hI X2 hL hk hK)⟩
  · refine ⟨fun _ => s211 X2 hL (Or.inr h8) (s249 hI X2 hL hk hK), fun z => ?_⟩
    rcases h8 with rfl | ⟨v, hv, rfl⟩
    · exact absurd z (by decide)
    · exact absurd (z ▸ nI_pos (n := v) (by omega)) (by decide)
theorem s295 (hI : Inv T d) (hX : WZ σ d b ds E) (hL : Lk E d w2) (hQ : ∀ σ' : Mem, WZ σ' d b ds E → Q 1 σ') : J_L_sound_b295 (nI (sm (loss d (amt d)) (d 1))) (nI (sm (amt d) (d 2))) 1 σ Q := by
  unfold J_L_sound_b295
  refine ⟨fun z => absurd z (by decide), fun _ => K_inflow (v := 0) hI hX hI.1.1 (fun τ1 X1 => ?_)⟩
  rw [nI_add, ← balance hI.1]
  refine ⟨fun z => absurd rfl z, fun _ => ?_⟩
  rw [X1.2.2 (18, 0, 0) (by decide), hL.1.2.1]
  refine X_limit hI X1 ⟨fun z => absurd rfl z, fun _ => ?_⟩
  rw [X1.2.2 (18, 0, 0) (by decide), hL.1.1]
  exact X_usefulGate hI X1 ⟨fun z => absurd rfl z, fun _ => hQ _ X1⟩
theorem s116 (hI : Inv T d) (hX : WZ σ d b ds E) (hL : Lk E d w2) (hQ : ∀ σ' : Mem, WZ σ' d b ds E → Q 1 σ') : J_L_sound_b116 (nI (sm (loss d (amt d)) (d 1))) 0 1 σ Q := by
  have hn := hL.2.1
  have hok := amt_ok hI.1 hI.geo.2.2.2.2.2.2.2.2
  unfold J_L_sound_b116
  refine lq3 (d 2) (by omega) (fun k x y τ => x = nI (sm (amt d) k) ∧ y = 1 ∧ WZ τ d b ds E) ⟨rfl, rfl, hX⟩ (fun k x y τ I μ hk hP next => ?_)
  clear hX
  obtain ⟨rfl, rfl, hX⟩ := hP
  rw [hX.2.2 (18, 0, 0) (by decide), hL.1.2.1]
  refine br_le (by omega) (by omega) (fun hle => ?_) (fun hlt => ⟨fun z => absurd z (by decide), fun _ => ?_⟩)
  · have : k = d 2 := by omega
    subst this
    exact s295 hI hX hL hQ
  · have h1 := hok.2 k hlt
    have h2 := ask_le (hI.2.2.2.2.2.2.2.2.2.2.1 k hlt)
    have nx : ∀ σ' : Mem, WZ σ' d b ds E → I (nI (sm (amt d) (k + 1))) 1 (nI (k + 1)) σ' ∧ μ (nI (sm (amt d) (k + 1))) 1 (nI (k + 1)) σ' < μ (nI (sm (amt d) k)) 1 (nI k) τ := fun σ' h => next hlt _ _ _ ⟨rfl, rfl, h⟩
    refine K_gets hI hX hlt (fun τ1 X1 => ?_)
    rintro _ rfl
    rw [nI_add]
    refine K_limit hI X1 hlt (fun hc τ2 X2 => ?_) (fun hc r τ2 X2 hr => ?_)
    · refine K_gets hI X2 hlt (fun τ3 X3 => K_asks hI X3 hlt ⟨fun z => absurd (congrArg nI hc) z, fun _ => ?_⟩)
      exact s171 hI X3 hL hlt (Or.inl ⟨rfl, rfl⟩) nx
    · refine K_gets hI X2 hlt (fun τ3 X3 => K_asks hI X3 hlt ⟨fun _ => ?_, fun z => absurd ((nI_eq (by omega) (by omega)).mp z) hc⟩)
      exact s171 hI X3 hL hlt (Or.inr ⟨hr, rfl⟩) nx
theorem s22 (hI : Inv T d) (hX : WZ σ d b ds E) (hL : Lk E d w2) (hQ : ∀ σ' : Mem, WZ σ' d b ds E → Q 1 σ') : J_L_sound_b22 0 0 1 σ Q := by
  have hn := hL.2.1
  have hok := amt_ok hI.1 hI.geo.2.2.2.2.2.2.2.2
  unfold J_L_sound_b22
  refine lq3 (d 1) (by omega) (fun k x y τ => x = nI (sm (loss d (amt d)) k) ∧ y = 1 ∧ WZ τ d b ds E) ⟨rfl, rfl, hX⟩ (fun k x y τ I μ hk hP next => ?_)
  clear hX
  obtain ⟨rfl, rfl, hX⟩ := hP
  rw [hX.2.2 (18, 0, 0) (by decide), hL.1.1]
  refine br_le (by omega) (by omega) (fun hle => ?_) (fun hlt => ⟨fun z => absurd z (by decide), fun _ => ?_⟩)
  · have : k = d 1 := by omega
    subst this
    exact s116 hI hX hL hQ
  · have m3 : (3 : Int32) * nI k = nI (3 * k) := pk_mul 3 k
    have i1 : nI (3 * k) + 1 = nI (3 * k + 1) := nI_add _ 1
    have i2 : nI (3 * k) + 2 = nI (3 * k + 2) := nI_add _ 2
    have hF := hok.1.1 k hlt
    have hG := (hI.geo.gt hlt).2
    have hls := hI.geo.ls hlt
    have hml : FF d (amt d) k * d (60 + k) ≤ 200 * 50 := Nat.mul_le_mul (by omega) hls
    rw [m3, i1, i2, nI_clamp (n := 3 * k + 1) (by omega), nI_clamp (n := 3 * k + 2) (by omega)]
    refine K_loses hI hX hlt (fun τ1 X1 => ?_)
    rintro _ rfl
    rw [nI_add]
    refine K_inflow hI X1 hlt (fun τ2 X2 => ⟨fun z => absurd z (nI_pos (by omega)), fun _ => ⟨vp_in_nI (by omega) (by decide), ?_⟩⟩)
    rw [X2.2.2 (16, 0, 0) (by decide), (hL.2.2.2.1 k hlt).1]
    refine br_lt (by omega) (by omega) (fun q => absurd q (by omega)) (fun _ => ?_)
    refine K_loses hI X2 hlt (fun τ3 X3 => ⟨vp_in_nI (by omega) (by decide), ?_⟩)
    have ev : (nI (FF d (amt d) k) * nI (d (60 + k)) + 99) / 100 = nI ((FF d (amt d) k * d (60 + k) + 99) / 100) := by
      rw [pk_mul, show nI (FF d (amt d) k * d (60 + k)) + 99 = nI (FF d (amt d) k * d (60 + k) + 99) from nI_add _ 99]
      exact pk_div (by omega) (by decide) (by decide)
    rw [X3.2.2 (16, 0, 0) (by decide), (hL.2.2.2.1 k hlt).2, ev, ← loss_at hI.1 (amt d) hlt]
    refine ⟨fun z => absurd rfl z, fun _ => ?_⟩
    rintro _ rfl
    rw [nI_1]
    exact next hlt _ _ _ ⟨rfl, rfl, X3⟩
/-- A DISTRICT IS SOUND -/
theorem K_sound (hI : Inv T d) (hX : WZ σ d b ds E) (hL : Lk E d w2) (hQ : ∀ σ' : Mem, WZ σ' d b ds E → Q 1 σ') : J_L_sound σ Q := by
  have hok := amt_ok hI.1 hI.geo.2.2.2.2.2.2.2.2
  have hF := hok.1.2
  have hs : sup d = w2 := hL.2.2.1 _ (hr_lt d)
  have hw := hL.2.1
  unfold J_L_sound
  refine K_inflow (v := 0) hI hX hI.1.1 (fun τ1 X1 => ?_)
  rw [X1.2.2 (18, 0, 0) (by decide), hL.1.2.2]
  exact br_lt (by omega) (by omega) (fun q => absurd q (by omega)) (fun _ => s22 hI X1 hL hQ)
end SO
