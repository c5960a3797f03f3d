/-! PART 37: the eldest; what is refused -/
theorem cmp_self (x : Int64) : lg_cmp x x = 0 := by
  unfold lg_cmp
  simp
section EL
variable {T : Nat} {σ E : Mem} {d : Dst} {b : Nat → Nat} {ds : Nat → Dst} {Q : Int32 → Mem → Prop} {w2 : Nat}
theorem e36 (hI : Inv T d) (h3 : d 3 = 0) (hX : WZ σ d b ds E) (hL : Lk E d w2) {w3 : Nat} (hw3 : w3 ≤ 2) (hQ : ∀ σ' : Mem, WZ σ' (du d 3 w3) b ds E → Q 1 σ') : J_L_eldest_b36 (nI (rkd d 0)) (nI w3) (nI (amt d (rkd d 0))) 1 σ Q := by
  have hn := hL.2.1
  have hR := hI.geo.2.2.2.2.2.2.2.2
  have h2 : 0 < d 2 := by omega
  have h0 := (hR 0 h2).1
  unfold J_L_eldest_b36
  refine lpAM (d 2) (by omega) (fun k y τ => y = 1 ∧ WZ τ d b ds E) ⟨rfl, hX⟩ (fun k y τ I μ hk hP next => ?_)
  clear hX
  obtain ⟨rfl, hX⟩ := hP
  rw [hX.2.2 (18, 0, 0) (by decide), hL.1.2.1]
  refine br_le (by omega) (by omega) (fun hle => ⟨fun z => absurd z (by decide), fun _ => ?_⟩) (fun hlt => ⟨fun z => absurd z (by decide), fun _ => ?_⟩)
  · refine K_gets hI hX h0 (fun τ1 X1 => ⟨fun z => absurd rfl z, fun _ => K_setRule hI X1 hw3 (fun τ2 I2 Z2 => ?_)⟩)
    rw [h3]
    exact ⟨fun z => absurd rfl z, fun _ => hQ _ Z2⟩
  · refine br_eq (by omega) (by omega) (fun _ => ?_) (fun hne => ?_)
    · rintro _ rfl
      rw [nI_1]
      exact next hlt _ _ ⟨rfl, hX⟩
    · have ek : rkd d (cnt d k (d 2)) = k := rkd_of hlt rfl
      have hold : older d (rkd d 0) k := by
        rcases Nat.eq_zero_or_pos (cnt d k (d 2)) with q | q
        · rw [q] at ek
          exact absurd ek.symm hne
        · have := rk_older hR q (cnt_self hlt)
          rw [ek] at this
          exact this
      have hg := gnd_zero hI h3 h2 hlt hne
      refine K_gain hI hX h0 hlt hold (fun τ1 X1 => ⟨fun z => absurd hg z, fun _ => ?_⟩)
      refine K_complaint hI X1 h0 hlt hold (fun τ2 X2 => ⟨fun z => absurd z (jdd_two hg), fun _ => ?_⟩)
      rintro _ rfl
      rw [nI_1]
      exact next hlt _ _ ⟨rfl, X2⟩
theorem K_eldest (hI : Inv T d) (hX : WZ σ d b ds E) (hL : Lk E d w2) (hQ : ∀ σ' : Mem, WZ σ' d (fun q => if q = 1 then 1 else b q) (fun q => if q = 1 then du d 3 0 else ds q) E → Q 1 σ') : J_L_eldest σ Q := by
  have hn := hL.2.1
  have h2 : 0 < d 2 := by omega
  have g3 : d 3 ≤ 2 := hI.geo.2.2.2.1
  have er : rkd (du d 3 0) 0 = rkd d 0 := rkd_congr (du_ne _ _ (by omega)) (fun v _ => du_ne _ _ (by omega)) 0
  have s1 : Sm d (du d 3 0) := Sm.du (by omega)
  unfold J_L_eldest
  refine K_userByAge (v := 0) hI hX h2 ?_
  rw [← er]
  refine K_setRule (v := 0) hI hX (by omega) (fun σ1 I1 Z1 => ?_)
  have h21 : 0 < du d 3 0 2 := by rw [du_ne _ _ (by omega)]; exact h2
  have hf := (I1.geo.2.2.2.2.2.2.2.2 0 h21).1
  refine K_gets I1 Z1 hf (fun σ2 Z2 => ?_)
  refine K_save (v := 1) I1 Z2 (by decide) (fun σ3 Z3 => ?_)
  refine K_time Z3 ⟨fun z => absurd rfl z, fun _ => ?_⟩
  refine e36 I1 (du_self _ _ _) Z3 (hL.sm s1) g3 (fun σ4 Z4 => hQ _ ?_)
  rw [du_du, du_id] at Z4
  exact Z4
theorem r276 (hI : Inv T d) (hX : WZ σ d b ds E) (hQ : ∀ σ' : Mem, WZ σ' d b ds E → Q 1 σ') : J_L_refuses_b276 (csum d) 1 σ Q := by
  unfold J_L_refuses_b276
  exact ⟨fun z => absurd z (by decide), fun _ => K_checksum hI hX (fun τ1 X1 => ⟨fun z => absurd (cmp_self _) z, fun _ => hQ _ X1⟩)⟩
theorem r187 (hI : Inv T d) (hX : WZ σ d b ds E) (hL : Lk E d w2) (hQ : ∀ σ' : Mem, WZ σ' d b ds E → Q 1 σ') : J_L_refuses_b187 (csum d) 1 σ Q := by
  have hn := hL.2.1
  have h2 : 0 < d 2 := by omega
  unfold J_L_refuses_b187
  rw [hX.2.2 (18, 0, 0) (by decide), hL.1.2.1]
  refine ⟨fun z => absurd z (by decide), fun _ => X_gain hI hX h2 ⟨fun z => absurd rfl z, fun _ => ?_⟩⟩
  refine X_complaint hI hX h2 ⟨fun z => absurd rfl z, fun _ => ?_⟩
  refine X_willMiss hI hX h2 ⟨fun z => absurd rfl z, fun _ => ?_⟩
  refine X_append ⟨fun z => absurd rfl z, fun _ => ?_⟩
  refine X_save ⟨fun z => absurd rfl z, fun _ => ?_⟩
  refine X_restore ⟨fun z => absurd rfl z, fun _ => ?_⟩
  exact X_isShut hI hX ⟨fun z => absurd rfl z, fun _ => r276 hI hX hQ⟩
theorem r93 (hI : Inv T d) (hX : WZ σ d b ds E) (hL : Lk E d w2) (hQ : ∀ σ' : Mem, WZ σ' d b ds E → Q 1 σ') : J_L_refuses_b93 (csum d) 1 σ Q := by
  have hn := hL.2.1
  have h2 : 0 < d 2 := by omega
  unfold J_L_refuses_b93
  refine ⟨fun z => absurd z (by decide), fun _ => X_setField2 hI hX h2 ⟨fun z => absurd rfl z, fun _ => ?_⟩⟩
  refine X_setPond hI hX h2 ⟨fun z => absurd rfl z, fun _ => ?_⟩
  refine X_setTurn hI hX h2 ⟨fun z => absurd rfl z, fun _ => ?_⟩
  refine X_setSupply ⟨fun z => absurd rfl z, fun _ => ?_⟩
  refine X_setRule ⟨fun z => absurd rfl z, fun _ => ?_⟩
  refine X_setFutile ⟨fun z => absurd rfl z, fun _ => ?_⟩
  exact X_advance ⟨fun z => absurd rfl z, fun _ => r187 hI hX hL hQ⟩
/-- WHAT IS REFUSED CHANGES NOTHING -/
theorem K_refuses (hI : Inv T d) (hX : WZ σ d b ds E) (hL : Lk E d w2) (hQ : ∀ σ' : Mem, WZ σ' d b ds E → Q 1 σ') : J_L_refuses σ Q := by
  have hn := hL.2.1
  have h2 : 0 < d 2 := by omega
  unfold J_L_refuses
  refine K_checksum hI hX (fun τ1 X1 => ?_)
  rw [X1.2.2 (18, 0, 0) (by decide), hL.1.1]
  refine X_addDitch1 hI X1 ⟨fun z => absurd rfl z, fun _ => ?_⟩
  refine X_addDitch2 hI X1 ⟨fun z => absurd rfl z, fun _ => ?_⟩
  refine X_setDitch hI X1 ⟨fun z => absurd rfl z, fun _ => ?_⟩
  refine X_addUser1 hI X1 ⟨fun z => absurd rfl z, fun _ => ?_⟩
  refine X_addUser2 hI X1 ⟨fun z => absurd rfl z, fun _ => ?_⟩
  exact X_setField1 hI X1 h2 ⟨fun z => absurd rfl z, fun _ => r93 hI X1 hL hQ⟩
end EL
