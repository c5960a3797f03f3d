/-! PART 25: a user more, in the class -/
section AE
variable {T : Nat} {d : Dst} {τ : Mem} {j : Nat}
def ini3 (x y z : Int32) (f : Nat) : Int32 := if f = 0 then x else if f = 1 then y else if f = 2 then z else 0
theorem C_begin4 {i : Nat} {x y z : Int32} {Q : Mem → Prop} (hQ : ∀ τ' : Mem, (∀ o : Oid, o ≠ (14, j, i) → τ' o = τ o) → (∀ f, f < 12 → τ' (14, j, i) f = ini3 x y z f) → Q τ') : J_X4_begin j i x y z τ Q := by
  unfold J_X4_begin
  rintro _ rfl _ rfl _ rfl _ rfl _ rfl _ rfl _ rfl _ rfl _ rfl _ rfl _ rfl _ rfl
  refine hQ _ (fun o h => ?_) (fun f hf => ?_)
  · rw [mup_ne _ _ _ h, mup_ne _ _ _ h, mup_ne _ _ _ h, mup_ne _ _ _ h, mup_ne _ _ _ h, mup_ne _ _ _ h, mup_ne _ _ _ h, mup_ne _ _ _ h, mup_ne _ _ _ h, mup_ne _ _ _ h, mup_ne _ _ _ h, mup_ne _ _ _ h]
  · unfold ini3
    have h : f = 0 ∨ f = 1 ∨ f = 2 ∨ f = 3 ∨ f = 4 ∨ f = 5 ∨ f = 6 ∨ f = 7 ∨ f = 8 ∨ f = 9 ∨ f = 10 ∨ f = 11 := by omega
    rcases h with rfl | rfl | rfl | rfl | rfl | rfl | rfl | rfl | rfl | rfl | rfl | rfl <;> simp [mup_at]
theorem C_copy4 {i j1 i1 : Nat} {Q : Mem → Prop} (hne : ((14, j1, i1) : Oid) ≠ (14, j, i)) (hb : isB (τ (14, j1, i1) 11)) (hQ : ∀ τ' : Mem, (∀ o : Oid, o ≠ (14, j, i) → τ' o = τ o) → (∀ f, f < 12 → τ' (14, j, i) f = τ (14, j1, i1) f) → Q τ') : J_X4_copyFrom j i j1 i1 τ Q := by
  unfold J_X4_copyFrom
  refine C_begin4 (fun τ1 hf hv => ?_)
  rintro _ rfl _ rfl _ rfl _ rfl _ rfl _ rfl _ rfl _ rfl
  simp only [mup_ne _ _ _ hne, hf _ hne]
  refine ⟨hb, ?_⟩
  rintro _ rfl
  refine hQ _ (fun o h => ?_) (fun f hq => ?_)
  · rw [mup_ne _ _ _ h, mup_ne _ _ _ h, mup_ne _ _ _ h, mup_ne _ _ _ h, mup_ne _ _ _ h, mup_ne _ _ _ h, mup_ne _ _ _ h, mup_ne _ _ _ h, mup_ne _ _ _ h]
    exact hf o h
  · have h := hv f hq
    unfold ini3 at h
    have h' : f = 0 ∨ f = 1 ∨ f = 2 ∨ f = 3 ∨ f = 4 ∨ f = 5 ∨ f = 6 ∨ f = 7 ∨ f = 8 ∨ f = 9 ∨ f = 10 ∨ f = 11 := by omega
    rcases h' with rfl | rfl | rfl | rfl | rfl | rfl | rfl | rfl | rfl | rfl | rfl | rfl <;> simp [mup_at] <;> simp at h <;> exact h
theorem C_putUser {p y r : Nat} {Q : Mem → Prop} (g : Geo d) (hv : RepX τ j d) (hn : d 2 < 12) (hy : y ≤ 2099) (hQ : ∀ τ' : Mem, (∀ o : Oid, o.1 ≠ 7 → o.1 ≠ 10 → o.1 ≠ 14 → τ' o = τ o) → FrJ j τ τ' → RepX τ' j (addU d p y r) → Q τ') : J_X2_putUser j (nI p) (nI y) (nI r) τ Q := by
  have hN := g.nd
  have hR : Rk d := g.2.2.2.2.2.2.2.2
  have fin : ∀ (τ4 : Mem) (k : Nat), (∀ o : Oid, o ≠ (10, j, 0) → τ4 o = τ o) → (∀ i, i < k → τ4 (10, j, 0) i = nI (rkd d i)) → (∀ i, k < i → i < d 2 + 1 → τ4 (10, j, 0) i = nI (rkd d (i - 1))) → Ins d y k → J_X2_putUser_b62 j (nI p) (nI y) (nI r) (nI p) (nI y) (nI r) (nI k) τ4 Q := by
    intro τ4 k hf h1 h2 hk
    have e6 : τ4 (7, j, 0) 6 = nI (d 2) := by rw [hf _ (oid_ne (by decide : (7 : Nat) ≠ 10))]; exact hv.nu
    have hk1 := hk.1
    unfold J_X2_putUser_b62
    rw [e6, nI_clamp (by omega)]
    refine ⟨vp_in_nI (by omega) (by decide), ?_⟩
    rintro _ rfl
    rw [mup_k _ _ _ (by decide : (7 : Nat) ≠ 10), e6, nI_clamp (by omega)]
    refine ⟨vp_in_nI (by omega) (by decide), ?_⟩
    refine C_begin4 (fun τ9 hf9 hv9 => ?_)
    have f9 : ∀ o : Oid, o.1 ≠ 10 → o.1 ≠ 14 → τ9 o = τ o := fun o q1 q2 => by rw [hf9 o (fun z => q2 (by rw [z])), mup_o _ _ _ q1, hf o (fun z => q1 (by rw [z]))]
    have e69 : τ9 (7, j, 0) 6 = nI (d 2) := by rw [f9 _ (by decide : (7 : Nat) ≠ 10) (by decide : (7 : Nat) ≠ 14)]; exact hv.nu
    rw [e69, nI_1]
    rintro _ rfl
    have fr : FrJ j τ (mup τ9 (7, j, 0) 6 (nI (d 2 + 1))) := by
      intro o q1 q2 q3 q4
      have n7 : o ≠ (7, j, 0) := fun z => by rw [z] at q4; revert q4; show ¬ (7 < 7 ∨ 14 < 7 ∨ j ≠ j); omega
      have n10 : o ≠ (10, j, 0) := fun z => by rw [z] at q4; revert q4; show ¬ (10 < 7 ∨ 14 < 10 ∨ j ≠ j); omega
      have n14 : o ≠ (14, j, d 2) := fun z => by rw [z] at q4; revert q4; show ¬ (14 < 7 ∨ 14 < 14 ∨ j ≠ j); omega
      rw [mup_ne _ _ _ n7, hf9 o n14, mup_ne _ _ _ n10, hf o n10]
    obtain ⟨⟨a0, a1, a2, a3, a4⟩, b, c, e, gg, kk⟩ := id hv
    have g7 : τ9 (7, j, 0) = τ (7, j, 0) := f9 _ (by decide : (7 : Nat) ≠ 10) (by decide : (7 : Nat) ≠ 14)
    refine hQ _ (fun o q1 q2 q3 => by rw [mup_o _ _ _ q1]; exact f9 o q2 q3) fr ⟨⟨?_, ?_, ?_, ?_, ?_⟩, fun i hi => ?_, fun i hi => ?_, fun i hi => ?_, fun v hv q hq => ?_, fun s hs => ?_⟩
    · rw [mup_other _ _ _ (by decide), g7, addU_lo (by omega) (by omega)]
      exact a0
    · rw [mup_other _ _ _ (by decide), g7, addU_lo (by omega) (by omega)]
      exact a1
    · rw [mup_same, addU_2]
    · rw [mup_other _ _ _ (by decide), g7, addU_lo (by omega) (by omega)]
      exact a3
    · rw [mup_other _ _ _ (by decide), g7, addU_lo (by omega) (by omega)]
      exact a4
    · rw [mup_k _ _ _ (by decide : (12 : Nat) ≠ 7), f9 _ (by decide : (12 : Nat) ≠ 10) (by decide : (12 : Nat) ≠ 14), addU_lo (by omega) (by omega)]
      exact b i hi
    · rw [mup_k _ _ _ (by decide : (11 : Nat) ≠ 7), f9 _ (by decide : (11 : Nat) ≠ 10) (by decide : (11 : Nat) ≠ 14), addU_lo (by omega) (by omega)]
      exact c i hi
    · rw [addU_lo (by omega) (by omega)] at hi
      rw [mup_k _ _ _ (by decide : (13 : Nat) ≠ 7), f9 _ (by decide : (13 : Nat) ≠ 10) (by decide : (13 : Nat) ≠ 14), addU_lo (by omega) (by omega), addU_lo (by omega) (by omega), addU_lo (by omega) (by omega)]
      exact e i hi
    · rw [addU_2] at hv
      rw [mup_k _ _ _ (by decide : (14 : Nat) ≠ 7)]
      by_cases z : v = d 2
      · rw [z, hv9 q hq, addU_new hq hn]
        unfold ini3
        by_cases z0 : q = 0
        · rw [if_pos z0, if_pos z0]
        · rw [if_neg z0, if_neg z0]
          by_cases z1 : q = 1
          · rw [if_pos z1, if_pos z1]
          · rw [if_neg z1, if_neg z1]
            by_cases z2 : q = 2
            · rw [if_pos z2, if_pos z2]
            · rw [if_neg z2, if_neg z2]
              rfl
      · rw [hf9 _ (oid_ne3 z), mup_k _ _ _ (by decide : (14 : Nat) ≠ 10), hf _ (oid_ne (by decide : (14 : Nat) ≠ 10)), addU_old hq (by omega) hn]
        exact gg v (by omega) q hq
    · rw [addU_2] at hs
      rw [mup_k _ _ _ (by decide : (10 : Nat) ≠ 7), hf9 _ (oid_ne (by decide : (10 : Nat) ≠ 14)), (addU_rkd hR hn hk s hs).1, mup_at]
      by_cases z1 : s = k
      · rw [if_pos z1, if_neg (by omega), if_pos z1]
      · rw [if_neg z1]
        by_cases z2 : s < k
        · rw [if_pos z2]
          exact h1 s z2
        · rw [if_neg z2, if_neg z1]
          exact h2 s (by omega) hs
  unfold J_X2_putUser J_X2_hasRoomForUser
  rw [hv.nu, fa_lit 12]
  refine br_le (by omega) (by omega) (fun h => absurd h (by omega)) (fun _ => y1 ?_)
  rw [hv.nu]
  rintro _ rfl
  refine ⟨fun x τ' => ∃ k, k ≤ d 2 ∧ x = nI k ∧ (∀ o : Oid, o ≠ (10, j, 0) → τ' o = τ o) ∧ (∀ i, i < k → τ' (10, j, 0) i = nI (rkd d i)) ∧ (∀ i, k < i → i < d 2 + 1 → τ' (10, j, 0) i = nI (rkd d (i - 1))) ∧ (∀ s, k ≤ s → s < d 2 → y < d (82 + rkd d s)), fun x _ => x.toNatClampNeg, ⟨d 2, Nat.le_refl _, rfl, fun _ _ => rfl, fun i hi => hv.rk hi, fun i h1 h2 => absurd h1 (by omega), fun s h1 h2 => absurd h1 (by omega)⟩, ?_⟩
  rintro x τ4 ⟨k, hk, rfl, hf, h1, h2, h3⟩
  rw [fa_lit 0]
  refine br_le (by omega) (by omega) (fun q => ?_) (fun q => ?_)
  · have : k = 0 := by omega
    subst this
    exact fin τ4 0 hf h1 h2 ⟨Nat.zero_le _, fun s hs => absurd hs (Nat.not_lt_zero _), h3⟩
  · obtain ⟨m, rfl⟩ : ∃ m, k = m + 1 := ⟨k - 1, by omega⟩
    obtain ⟨a1, a2⟩ := hR m (by omega)
    have ey : τ4 (14, j, rkd d m) 1 = nI (d (82 + rkd d m)) := by rw [hf _ (oid_ne (by decide : (14 : Nat) ≠ 10))]; exact hv.u1 a1
    have by' := (g.ug a1).1
    rw [nI_pred, nI_clamp (by omega), h1 m (by omega), nI_clamp (by omega), ey, nI_clamp (by omega)]
    refine ⟨vp_in_nI (by omega) (by decide), vp_in_nI (by omega) (by decide), ?_⟩
    refine br_le (by omega) (by omega) (fun z => ?_) (fun z => ?_)
    · refine fin τ4 (m + 1) hf h1 h2 ⟨hk, fun s hs => ?_, h3⟩
      by_cases w : s = m
      · rw [w]; exact z
      · exact Nat.le_trans (rk_year hR (by omega : s < m) (by omega)) z
    · refine ⟨vp_in_nI (by omega) (by decide), vp_in_nI (by omega) (by decide), ?_⟩
      rintro _ rfl
      rw [pk_m1]
      rintro _ rfl
      refine ⟨⟨m, by omega, rfl, fun o ho => by rw [mup_ne _ _ _ ho]; exact hf o ho, fun i hi => ?_, fun i g1 g2 => ?_, fun s g1 g2 => ?_⟩, ?_⟩
      · rw [mup_other _ _ _ (by omega)]
        exact h1 i (by omega)
      · rw [mup_at]
        by_cases w : i = m + 1
        · rw [if_pos w, w]; rfl
        · rw [if_neg w]
          exact h2 i (by omega) g2
      · by_cases w : s = m
        · rw [w]; exact z
        · exact h3 s (by omega) g2
      · show (nI m).toNatClampNeg < (nI (m + 1)).toNatClampNeg
        rw [nI_clamp (by omega), nI_clamp (by omega)]
        omega
end AE
