/-! PART 13: the reference's reads and its distribution -/
/-- the bounds of a user's numbers -/
def UB (T : Nat) (d : Dst) (u : Nat) : Prop := d (82 + u) ≤ 2099 ∧ d (94 + u) ≤ 60 ∧ d (106 + u) ≤ 60 ∧ d (118 + u) ≤ 24 ∧ d (130 + u) ≤ 24 ∧ d (142 + u) ≤ 500 ∧ d (154 + u) ≤ d (142 + u) ∧ d (166 + u) ≤ 20 ∧ d (178 + u) ≤ 24 ∧ d (190 + u) ≤ 100 * T ∧ d (202 + u) ≤ 1
def Inv (T : Nat) (d : Dst) : Prop := Topo d ∧ d 1 ≤ 10 ∧ d 2 ≤ 12 ∧ d 3 ≤ 2 ∧ d 4 ≤ 100 ∧ d 0 ≤ T ∧ T ≤ 30000 ∧ (∀ i, i < 7 → d (5 + i) ≤ 7000 * T) ∧ (∀ h, h < 24 → d (12 + h) ≤ 200) ∧ (∀ i, i < d 1 → 1 ≤ d (50 + i) ∧ d (50 + i) ≤ 200) ∧ (∀ u, u < d 2 → UB T d u) ∧ Rk d
theorem hr_lt (d : Dst) : hr d < 24 := Nat.mod_lt _ (by decide)
theorem need_le {T : Nat} {d : Dst} {u : Nat} (h : UB T d u) : need d u ≤ 60 := by
  unfold need
  have := h.2.2.1
  split <;> omega
theorem could_le {T : Nat} {d : Dst} {u : Nat} (h : UB T d u) : could d u ≤ 560 := by
  have h1 := need_le h
  have h2 := h.2.2.2.2.2.1
  unfold could
  omega
theorem ask_le {T : Nat} {d : Dst} {u : Nat} (h : UB T d u) : ask d u ≤ 560 := by
  have h1 := could_le h
  unfold ask
  split
  · split <;> omega
  · omega
theorem dI_lt {k h : Nat} (hk : k < 2 ^ 30) (hh : h < 2 ^ 30) : dI k < nI h ↔ k ≤ h := by
  cases k with
  | zero =>
    rw [dI_0]
    constructor
    · intro _; exact Nat.zero_le _
    · intro _
      rw [Int32.lt_iff_toInt_lt, nI_toInt (by omega)]
      show (-1 : Int) < _
      omega
  | succ k =>
    rw [dI_succ, nI_ltI (by omega) (by omega)]
    omega
/-- the turn, as the reference has it and as the class has it -/
def turnR (d : Dst) : Int32 := if tnow d = 99 then -1 else nI (tnow d)
def turnC (d : Dst) : Int32 := if tnow d = 99 then -105 else nI (tnow d)
theorem tnow_99 {d : Dst} (h : ¬ (d 3 = 1 ∧ tsum d (d 2) ≠ 0)) : tnow d = 99 := if_neg h
theorem au_au (a : Nat → Nat) (u x y : Nat) : au (au a u x) u y = au a u y := by
  funext v
  unfold au
  split <;> rfl
theorem au_id (a : Nat → Nat) (u : Nat) : au a u (a u) = a := by
  funext v
  unfold au
  split
  · rename_i h; rw [h]
  · rfl
