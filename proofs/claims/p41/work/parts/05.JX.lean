def J_J9_floorMod_7cf53 (x0 : Int32) (x1 : Int32) (σ : Mem) (Q : Int32 → Mem → Prop) : Prop :=
(¬ x1 = 0) ∧
∀ x2_2 : Int32, x2_2 = x0 - x0 / x1 * x1 →
((0 ≤ (x0 ^^^ x1) →
  Q x2_2 σ) ∧
(¬ 0 ≤ (x0 ^^^ x1) →
  ((x2_2 = 0 →
    Q x2_2 σ) ∧
  (¬ x2_2 = 0 →
    Q (x2_2 + x1) σ))))
def J_X2_hasDitch (j0 : Nat) (x1 : Int32) (σ : Mem) (Q : Int32 → Mem → Prop) : Prop :=
((x1 < 0 →
  Q 0 σ) ∧
(¬ x1 < 0 →
  (((σ (7, j0, 0) 5) ≤ x1 →
    Q 0 σ) ∧
  (¬ (σ (7, j0, 0) 5) ≤ x1 →
    Q 1 σ))))
def J_X5_isWithin (x0 : Int32) (x1 : Int32) (x2 : Int32) (σ : Mem) (Q : Int32 → Mem → Prop) : Prop :=
((x0 < x1 →
  Q 0 σ) ∧
(¬ x0 < x1 →
  ((x2 < x0 →
    Q 0 σ) ∧
  (¬ x2 < x0 →
    Q 1 σ))))
def J_X5_areGateAndLoss (x0 : Int32) (x1 : Int32) (σ : Mem) (Q : Int32 → Mem → Prop) : Prop :=
J_X5_isWithin x0 1 200 σ (fun r1 τ1 =>
((r1 = 0 →
  Q 0 τ1) ∧
(¬ r1 = 0 →
  J_X5_isWithin x1 0 50 τ1 (fun r3 τ3 =>
  ((r3 = 0 →
    Q 0 τ3) ∧
  (¬ r3 = 0 →
    Q 1 τ3))))))
def J_X5_setDitch (x1 : Int32) (x2 : Int32) (x3 : Int32) (σ : Mem) (Q : Int32 → Mem → Prop) : Prop :=
J_X2_hasDitch 0 x1 σ (fun r1 τ1 =>
((¬ r1 = 0 →
  J_X5_areGateAndLoss x2 x3 τ1 (fun r3 τ3 =>
  ((¬ r3 = 0 →
    vp_in x1 10 ∧
    ∀ x5_6 : Int32, x5_6 = τ3 (13, 0, x1.toNatClampNeg) 1 →
    ∀ τ7 : Mem, τ7 = mup τ3 (13, 0, x1.toNatClampNeg) 1 x2 →
    ∀ τ8 : Mem, τ8 = mup τ7 (13, 0, x1.toNatClampNeg) 2 x3 →
    Q x5_6 τ8) ∧
  (r3 = 0 →
    Q (-102) τ3)))) ∧
(r1 = 0 →
  Q (-101) τ1)))
def J_X5_areHours (x0 : Int32) (x1 : Int32) (σ : Mem) (Q : Int32 → Mem → Prop) : Prop :=
J_X5_isWithin x0 0 23 σ (fun r1 τ1 =>
((r1 = 0 →
  Q 0 τ1) ∧
(¬ r1 = 0 →
  ((x1 ≤ x0 →
    Q 0 τ1) ∧
  (¬ x1 ≤ x0 →
    ((24 < x1 →
      Q 0 τ1) ∧
    (¬ 24 < x1 →
      Q 1 τ1)))))))
def J_X2_putSupply (j0 : Nat) (x1 : Int32) (x2 : Int32) (x3 : Int32) (σ : Mem) (Q : Mem → Prop) : Prop :=
∀ x4_1 : Int32, x4_1 = (if x1 < 0 then 0 else x1) →
∃ (I7 : Int32 → Mem → Prop) (μ7 : Int32 → Mem → Nat), I7 x4_1 σ ∧ ∀ (x4_2 : Int32) (τ2 : Mem), I7 x4_2 τ2 →
  ((x2 ≤ x4_2 →
    Q τ2) ∧
  (¬ x2 ≤ x4_2 →
    ((24 ≤ x4_2 →
      Q τ2) ∧
    (¬ 24 ≤ x4_2 →
      vp_in x4_2 24 ∧
      ∀ τ6 : Mem, τ6 = mup τ2 (11, j0, 0) x4_2.toNatClampNeg x3 →
      ∀ x4_7 : Int32, x4_7 = x4_2 + 1 →
      I7 x4_7 τ6 ∧ μ7 x4_7 τ6 < μ7 x4_2 τ2))))
def J_X5_setSupply (x1 : Int32) (x2 : Int32) (x3 : Int32) (σ : Mem) (Q : Int32 → Mem → Prop) : Prop :=
J_X5_areHours x1 x2 σ (fun r1 τ1 =>
((r1 = 0 →
  Q (-102) τ1) ∧
(¬ r1 = 0 →
  J_X5_isWithin x3 0 200 τ1 (fun r3 τ3 =>
  ((¬ r3 = 0 →
    vp_in x1 24 ∧
    ∀ x4_6 : Int32, x4_6 = τ3 (11, 0, 0) x1.toNatClampNeg →
    J_X2_putSupply 0 x1 x2 x3 τ3 (fun τ7 =>
    Q x4_6 τ7)) ∧
  (r3 = 0 →
    Q (-102) τ3))))))
def J_X5_setRule (x1 : Int32) (σ : Mem) (Q : Int32 → Mem → Prop) : Prop :=
J_X5_isWithin x1 0 2 σ (fun r1 τ1 =>
((¬ r1 = 0 →
  ∀ x2_3 : Int32, x2_3 = τ1 (7, 0, 0) 7 →
  ∀ τ4 : Mem, τ4 = mup τ1 (7, 0, 0) 7 x1 →
  Q x2_3 τ4) ∧
(r1 = 0 →
  Q (-102) τ1)))
def J_X2_hasRoomForDitch (j0 : Nat) (σ : Mem) (Q : Int32 → Mem → Prop) : Prop :=
((10 ≤ (σ (7, j0, 0) 5) →
  Q 0 σ) ∧
(¬ 10 ≤ (σ (7, j0, 0) 5) →
  Q 1 σ))
def J_X0_begin (j0 : Nat) (i0 : Nat) (x1 : Int32) (x2 : Int32) (x3 : Int32) (σ : Mem) (Q : Mem → Prop) : Prop :=
∀ τ1 : Mem, τ1 = mup σ (13, j0, i0) 0 x1 →
∀ τ2 : Mem, τ2 = mup τ1 (13, j0, i0) 1 x2 →
∀ τ3 : Mem, τ3 = mup τ2 (13, j0, i0) 2 x3 →
Q τ3
def J_X2_putDitch (j0 : Nat) (x1 : Int32) (x2 : Int32) (x3 : Int32) (σ : Mem) (Q : Mem → Prop) : Prop :=
J_X2_hasRoomForDitch j0 σ (fun r1 τ1 =>
((¬ r1 = 0 →
  vp_in (τ1 (7, j0, 0) 5) 10 ∧
  J_X0_begin j0 ((τ1 (7, j0, 0) 5).toNatClampNeg) x1 x2 x3 τ1 (fun τ4 =>
  ∀ τ5 : Mem, τ5 = mup τ4 (7, j0, 0) 5 ((τ4 (7, j0, 0) 5) + 1) →
  Q τ5)) ∧
(r1 = 0 →
  Q τ1)))
def J_X5_addDitch (x1 : Int32) (x2 : Int32) (x3 : Int32) (σ : Mem) (Q : Int32 → Mem → Prop) : Prop :=
J_X2_hasDitch 0 x1 σ (fun r1 τ1 =>
((¬ r1 = 0 →
  J_X5_areGateAndLoss x2 x3 τ1 (fun r3 τ3 =>
  ((¬ r3 = 0 →
    J_X2_hasRoomForDitch 0 τ3 (fun r5 τ5 =>
    ((¬ r5 = 0 →
      J_X2_putDitch 0 x1 x2 x3 τ5 (fun τ7 =>
      Q ((τ7 (7, 0, 0) 5) - 1) τ7)) ∧
    (r5 = 0 →
      Q (-104) τ5)))) ∧
  (r3 = 0 →
    Q (-102) τ3)))) ∧
(r1 = 0 →
  Q (-101) τ1)))
def J_X2_hasRoomForUser (j0 : Nat) (σ : Mem) (Q : Int32 → Mem → Prop) : Prop :=
((12 ≤ (σ (7, j0, 0) 6) →
  Q 0 σ) ∧
(¬ 12 ≤ (σ (7, j0, 0) 6) →
  Q 1 σ))
def J_X4_begin (j0 : Nat) (i0 : Nat) (x1 : Int32) (x2 : Int32) (x3 : Int32) (σ : Mem) (Q : Mem → Prop) : Prop :=
∀ τ1 : Mem, τ1 = mup σ (14, j0, i0) 0 x1 →
∀ τ2 : Mem, τ2 = mup τ1 (14, j0, i0) 1 x2 →
∀ τ3 : Mem, τ3 = mup τ2 (14, j0, i0) 2 x3 →
∀ τ4 : Mem, τ4 = mup τ3 (14, j0, i0) 3 0 →
∀ τ5 : Mem, τ5 = mup τ4 (14, j0, i0) 4 0 →
∀ τ6 : Mem, τ6 = mup τ5 (14, j0, i0) 5 0 →
∀ τ7 : Mem, τ7 = mup τ6 (14, j0, i0) 6 0 →
∀ τ8 : Mem, τ8 = mup τ7 (14, j0, i0) 7 0 →
∀ τ9 : Mem, τ9 = mup τ8 (14, j0, i0) 8 0 →
∀ τ10 : Mem, τ10 = mup τ9 (14, j0, i0) 9 0 →
∀ τ11 : Mem, τ11 = mup τ10 (14, j0, i0) 10 0 →
∀ τ12 : Mem, τ12 = mup τ11 (14, j0, i0) 11 0 →
Q τ12
def J_X2_putUser_b62 (j0 : Nat) (x1 : Int32) (x2 : Int32) (x3 : Int32)  (b1 : Int32) (b2 : Int32) (b3 : Int32) (b4 : Int32) (τ : Mem) (Q : Mem → Prop) : Prop :=
vp_in b4 12 ∧
∀ τ7 : Mem, τ7 = mup τ (10, j0, 0) b4.toNatClampNeg (τ (7, j0, 0) 6) →
vp_in (τ7 (7, j0, 0) 6) 12 ∧
J_X4_begin j0 ((τ7 (7, j0, 0) 6).toNatClampNeg) b1 b2 b3 τ7 (fun τ9 =>
∀ τ10 : Mem, τ10 = mup τ9 (7, j0, 0) 6 ((τ9 (7, j0, 0) 6) + 1) →
Q τ10)
def J_X2_putUser (j0 : Nat) (x1 : Int32) (x2 : Int32) (x3 : Int32) (σ : Mem) (Q : Mem → Prop) : Prop :=
J_X2_hasRoomForUser j0 σ (fun r1 τ1 =>
((¬ r1 = 0 →
  ∀ x4_3 : Int32, x4_3 = τ1 (7, j0, 0) 6 →
  ∃ (I14 : Int32 → Mem → Prop) (μ14 : Int32 → Mem → Nat), I14 x4_3 τ1 ∧ ∀ (x4_4 : Int32) (τ4 : Mem), I14 x4_4 τ4 →
    ((x4_4 ≤ 0 →
      J_X2_putUser_b62 j0 x1 x2 x3 x1 x2 x3 x4_4 τ4 Q) ∧
    (¬ x4_4 ≤ 0 →
      vp_in (x4_4 - 1) 12 ∧
      vp_in (τ4 (10, j0, 0) ((x4_4 - 1).toNatClampNeg)) 12 ∧
      (((τ4 (14, j0, ((τ4 (10, j0, 0) ((x4_4 - 1).toNatClampNeg)).toNatClampNeg)) 1) ≤ x2 →
        J_X2_putUser_b62 j0 x1 x2 x3 x1 x2 x3 x4_4 τ4 Q) ∧
      (¬ (τ4 (14, j0, ((τ4 (10, j0, 0) ((x4_4 - 1).toNatClampNeg)).toNatClampNeg)) 1) ≤ x2 →
        vp_in (x4_4 - 1) 12 ∧
        vp_in x4_4 12 ∧
        ∀ τ16 : Mem, τ16 = mup τ4 (10, j0, 0) x4_4.toNatClampNeg (τ4 (10, j0, 0) ((x4_4 - 1).toNatClampNeg)) →
        ∀ x4_17 : Int32, x4_17 = x4_4 + (-1) →
        I14 x4_17 τ16 ∧ μ14 x4_17 τ16 < μ14 x4_4 τ4))))) ∧
(r1 = 0 →
  Q τ1)))
def J_X5_addUser (x1 : Int32) (x2 : Int32) (x3 : Int32) (σ : Mem) (Q : Int32 → Mem → Prop) : Prop :=
J_X2_hasDitch 0 x1 σ (fun r1 τ1 =>
((¬ r1 = 0 →
  J_X5_isWithin x2 1800 2099 τ1 (fun r3 τ3 =>
  ((r3 = 0 →
    Q (-102) τ3) ∧
  (¬ r3 = 0 →
    J_X5_isWithin x3 0 60 τ3 (fun r5 τ5 =>
    ((¬ r5 = 0 →
      J_X2_hasRoomForUser 0 τ5 (fun r7 τ7 =>
      ((¬ r7 = 0 →
        J_X2_putUser 0 x1 x2 x3 τ7 (fun τ9 =>
        Q ((τ9 (7, 0, 0) 6) - 1) τ9)) ∧
      (r7 = 0 →
        Q (-104) τ7)))) ∧
    (r5 = 0 →
      Q (-102) τ5))))))) ∧
(r1 = 0 →
  Q (-101) τ1)))
def J_X2_hasUser (j0 : Nat) (x1 : Int32) (σ : Mem) (Q : Int32 → Mem → Prop) : Prop :=
((x1 < 0 →
  Q 0 σ) ∧
(¬ x1 < 0 →
  (((σ (7, j0, 0) 6) ≤ x1 →
    Q 0 σ) ∧
  (¬ (σ (7, j0, 0) 6) ≤ x1 →
    Q 1 σ))))
def J_X5_setField (x1 : Int32) (x2 : Int32) (x3 : Int32) (x4 : Int32) (σ : Mem) (Q : Int32 → Mem → Prop) : Prop :=
J_X2_hasUser 0 x1 σ (fun r1 τ1 =>
((¬ r1 = 0 →
  J_X5_isWithin x2 0 60 τ1 (fun r3 τ3 =>
  ((r3 = 0 →
    Q (-102) τ3) ∧
  (¬ r3 = 0 →
    J_X5_areHours x3 x4 τ3 (fun r5 τ5 =>
    ((¬ r5 = 0 →
      vp_in x1 12 ∧
      ∀ x6_8 : Int32, x6_8 = τ5 (14, 0, x1.toNatClampNeg) 3 →
      ∀ τ9 : Mem, τ9 = mup τ5 (14, 0, x1.toNatClampNeg) 3 x2 →
      ∀ τ10 : Mem, τ10 = mup τ9 (14, 0, x1.toNatClampNeg) 4 x3 →
      ∀ τ11 : Mem, τ11 = mup τ10 (14, 0, x1.toNatClampNeg) 5 x4 →
      Q x6_8 τ11) ∧
    (r5 = 0 →
      Q (-102) τ5))))))) ∧
(r1 = 0 →
  Q (-101) τ1)))
def J_X5_setPond (x1 : Int32) (x2 : Int32) (x3 : Int32) (σ : Mem) (Q : Int32 → Mem → Prop) : Prop :=
J_X2_hasUser 0 x1 σ (fun r1 τ1 =>
((¬ r1 = 0 →
  J_X5_isWithin x2 0 500 τ1 (fun r3 τ3 =>
  ((r3 = 0 →
    Q (-102) τ3) ∧
  (¬ r3 = 0 →
    J_X5_isWithin x3 0 20 τ3 (fun r5 τ5 =>
    ((¬ r5 = 0 →
      vp_in x1 12 ∧
      ∀ τ8 : Mem, τ8 = mup τ5 (14, 0, x1.toNatClampNeg) 6 x2 →
      ∀ τ9 : Mem, τ9 = mup τ8 (14, 0, x1.toNatClampNeg) 8 x3 →
      ∀ τ10 : Mem, τ10 = mup τ9 (14, 0, x1.toNatClampNeg) 7 (if x2 < (τ9 (14, 0, x1.toNatClampNeg) 7) then x2 else (τ9 (14, 0, x1.toNatClampNeg) 7)) →
      Q (τ10 (14, 0, x1.toNatClampNeg) 7) τ10) ∧
    (r5 = 0 →
      Q (-102) τ5))))))) ∧
(r1 = 0 →
  Q (-101) τ1)))
def J_X5_ditches (σ : Mem) (Q : Int32 → Mem → Prop) : Prop :=
Q (σ (7, 0, 0) 5) σ
def J_X5_users (σ : Mem) (Q : Int32 → Mem → Prop) : Prop :=
Q (σ (7, 0, 0) 6) σ
def J_X5_userByAge (x1 : Int32) (σ : Mem) (Q : Int32 → Mem → Prop) : Prop :=
J_X2_hasUser 0 x1 σ (fun r1 τ1 =>
((r1 = 0 →
  Q (-101) τ1) ∧
(¬ r1 = 0 →
  vp_in x1 12 ∧
  Q (τ1 (10, 0, 0) x1.toNatClampNeg) τ1)))
def J_X2_hourOfDay (j0 : Nat) (σ : Mem) (Q : Int32 → Mem → Prop) : Prop :=
J_J9_floorMod_7cf53 (σ (7, j0, 0) 9) 24 σ (fun r1 τ1 =>
Q r1 τ1)
def J_X2_supplyNow (j0 : Nat) (σ : Mem) (Q : Int32 → Mem → Prop) : Prop :=
J_X2_hourOfDay j0 σ (fun r1 τ1 =>
vp_in r1 24 ∧
Q (τ1 (11, j0, 0) r1.toNatClampNeg) τ1)
def J_X2_userInTurn (j0 : Nat) (σ : Mem) (Q : Int32 → Mem → Prop) : Prop :=
∃ (I4 : Int32 → Int32 → Prop) (μ4 : Int32 → Int32 → Nat), I4 0 0 ∧ ∀ (x1_1 : Int32) (x2_1 : Int32), I4 x1_1 x2_1 →
  (((σ (7, j0, 0) 6) ≤ x2_1 →
    ((¬ (σ (7, j0, 0) 7) = 1 →
      Q (-105) σ) ∧
    ((σ (7, j0, 0) 7) = 1 →
      ((0 < x1_1 →
        J_J9_floorMod_7cf53 (σ (7, j0, 0) 9) x1_1 σ (fun r5 τ5 =>
        ∃ (I56 : Int32 → Int32 → Prop) (μ56 : Int32 → Int32 → Nat), I56 r5 0 ∧ ∀ (x2_6 : Int32) (x3_6 : Int32), I56 x2_6 x3_6 →
          (((τ5 (7, j0, 0) 6) ≤ x3_6 →
            Q (-105) τ5) ∧
          (¬ (τ5 (7, j0, 0) 6) ≤ x3_6 →
            vp_in x3_6 12 ∧
            (((τ5 (14, j0, x3_6.toNatClampNeg) 9) ≤ x2_6 →
              vp_in x3_6 12 ∧
              ∀ x2_11 : Int32, x2_11 = x2_6 - (τ5 (14, j0, x3_6.toNatClampNeg) 9) →
              ∀ x3_12 : Int32, x3_12 = x3_6 + 1 →
              I56 x2_11 x3_12 ∧ μ56 x2_11 x3_12 < μ56 x2_6 x3_6) ∧
            (¬ (τ5 (14, j0, x3_6.toNatClampNeg) 9) ≤ x2_6 →
              Q x3_6 τ5)))))) ∧
      (¬ 0 < x1_1 →
        Q (-105) σ))))) ∧
  (¬ (σ (7, j0, 0) 6) ≤ x2_1 →
    vp_in x2_1 12 ∧
    ∀ x1_14 : Int32, x1_14 = x1_1 + (σ (14, j0, x2_1.toNatClampNeg) 9) →
    ∀ x2_15 : Int32, x2_15 = x2_1 + 1 →
    I4 x1_14 x2_15 ∧ μ4 x1_14 x2_15 < μ4 x1_1 x2_1))
def J_X4_needAt (j0 : Nat) (i0 : Nat) (x1 : Int32) (σ : Mem) (Q : Int32 → Mem → Prop) : Prop :=
((x1 < (σ (14, j0, i0) 4) →
  Q 0 σ) ∧
(¬ x1 < (σ (14, j0, i0) 4) →
  (((σ (14, j0, i0) 5) ≤ x1 →
    Q 0 σ) ∧
  (¬ (σ (14, j0, i0) 5) ≤ x1 →
    Q (σ (14, j0, i0) 3) σ))))
def J_X4_room (j0 : Nat) (i0 : Nat) (σ : Mem) (Q : Int32 → Mem → Prop) : Prop :=
Q ((σ (14, j0, i0) 6) - (σ (14, j0, i0) 7)) σ
def J_X2_unitsAsked (j0 : Nat) (x1 : Int32) (x2 : Int32) (σ : Mem) (Q : Int32 → Mem → Prop) : Prop :=
vp_in x1 12 ∧
(((σ (14, j0, x1.toNatClampNeg) 11) = 0 →
  J_X2_hourOfDay j0 σ (fun r3 τ3 =>
  J_X4_needAt j0 x1.toNatClampNeg r3 τ3 (fun r4 τ4 =>
  J_X4_room j0 x1.toNatClampNeg τ4 (fun r5 τ5 =>
  ∀ x4_6 : Int32, x4_6 = r4 + r5 →
  ((¬ x1 = x2 →
    Q (if x4_6 < (τ5 (14, j0, x1.toNatClampNeg) 2) then x4_6 else (τ5 (14, j0, x1.toNatClampNeg) 2)) τ5) ∧
  (x1 = x2 →
    Q x4_6 τ5)))))) ∧
(¬ (σ (14, j0, x1.toNatClampNeg) 11) = 0 →
  Q 0 σ))
def J_X1_giveShares (j1 : Nat) (x2 : Int32) (σ : Mem) (Q : Mem → Prop) : Prop :=
∃ (I2 : Int32 → Mem → Prop) (μ2 : Int32 → Mem → Nat), I2 0 σ ∧ ∀ (x3_1 : Int32) (τ1 : Mem), I2 x3_1 τ1 →
  (((τ1 (7, j1, 0) 6) ≤ x3_1 →
    Q τ1) ∧
  (¬ (τ1 (7, j1, 0) 6) ≤ x3_1 →
    vp_in x3_1 12 ∧
    vp_in x3_1 12 ∧
    ∀ τ5 : Mem, τ5 = mup τ1 (4, 1, 0) x3_1.toNatClampNeg (((τ1 (4, 0, 0) x3_1.toNatClampNeg) * x2) / 100) →
    ∀ x3_6 : Int32, x3_6 = x3_1 + 1 →
    I2 x3_6 τ5 ∧ μ2 x3_6 τ5 < μ2 x3_1 τ1))
def J_X0_inflowFor (j0 : Nat) (i0 : Nat) (x1 : Int32) (σ : Mem) (Q : Int32 → Mem → Prop) : Prop :=
∀ x2_1 : Int32, x2_1 = 100 - (σ (13, j0, i0) 2) →
((x2_1 ≤ 0 →
  Q 0 σ) ∧
(¬ x2_1 ≤ 0 →
  (¬ x2_1 = 0) ∧
  Q ((((100 * x1) + x2_1) - 1) / x2_1) σ))
def J_X1_spread (j1 : Nat) (σ : Mem) (Q : Mem → Prop) : Prop :=
∃ (I2 : Int32 → Mem → Prop) (μ2 : Int32 → Mem → Nat), I2 0 σ ∧ ∀ (x2_1 : Int32) (τ1 : Mem), I2 x2_1 τ1 →
  (((τ1 (7, j1, 0) 5) ≤ x2_1 →
    ∃ (I25 : Int32 → Mem → Prop) (μ25 : Int32 → Mem → Nat), I25 0 τ1 ∧ ∀ (x2_3 : Int32) (τ3 : Mem), I25 x2_3 τ3 →
      (((τ3 (7, j1, 0) 6) ≤ x2_3 →
        ∀ x2_5 : Int32, x2_5 = (τ3 (7, j1, 0) 5) - 1 →
        ∃ (I69 : Int32 → Mem → Prop) (μ69 : Int32 → Mem → Nat), I69 x2_5 τ3 ∧ ∀ (x2_6 : Int32) (τ6 : Mem), I69 x2_6 τ6 →
          ((x2_6 < 0 →
            Q τ6) ∧
          (¬ x2_6 < 0 →
            vp_in x2_6 10 ∧
            vp_in x2_6 10 ∧
            J_X0_inflowFor j1 x2_6.toNatClampNeg (τ6 (15, 1, 0) x2_6.toNatClampNeg) τ6 (fun r10 τ10 =>
            vp_in x2_6 10 ∧
            ∀ τ12 : Mem, τ12 = mup τ10 (15, 0, 0) x2_6.toNatClampNeg r10 →
            ((x2_6 ≤ 0 →
              ∀ x2_14 : Int32, x2_14 = x2_6 + (-1) →
              I69 x2_14 τ12 ∧ μ69 x2_14 τ12 < μ69 x2_6 τ6) ∧
            (¬ x2_6 ≤ 0 →
              vp_in x2_6 10 ∧
              vp_in (τ12 (13, j1, x2_6.toNatClampNeg) 0) 10 ∧
              vp_in x2_6 10 ∧
              vp_in (τ12 (13, j1, x2_6.toNatClampNeg) 0) 10 ∧
              ∀ τ19 : Mem, τ19 = mup τ12 (15, 1, 0) ((τ12 (13, j1, x2_6.toNatClampNeg) 0).toNatClampNeg) ((τ12 (15, 1, 0) ((τ12 (13, j1, x2_6.toNatClampNeg) 0).toNatClampNeg)) + (τ12 (15, 0, 0) x2_6.toNatClampNeg)) →
              ∀ x2_20 : Int32, x2_20 = x2_6 + (-1) →
              I69 x2_20 τ19 ∧ μ69 x2_20 τ19 < μ69 x2_6 τ6)))))) ∧
      (¬ (τ3 (7, j1, 0) 6) ≤ x2_3 →
        vp_in x2_3 12 ∧
        vp_in (τ3 (14, j1, x2_3.toNatClampNeg) 0) 10 ∧
        vp_in x2_3 12 ∧
        vp_in (τ3 (14, j1, x2_3.toNatClampNeg) 0) 10 ∧
        ∀ τ25 : Mem, τ25 = mup τ3 (15, 1, 0) ((τ3 (14, j1, x2_3.toNatClampNeg) 0).toNatClampNeg) ((τ3 (15, 1, 0) ((τ3 (14, j1, x2_3.toNatClampNeg) 0).toNatClampNeg)) + (τ3 (4, 1, 0) x2_3.toNatClampNeg)) →
        ∀ x2_26 : Int32, x2_26 = x2_3 + 1 →
        I25 x2_26 τ25 ∧ μ25 x2_26 τ25 < μ25 x2_3 τ3))) ∧
  (¬ (τ1 (7, j1, 0) 5) ≤ x2_1 →
    vp_in x2_1 10 ∧
    ∀ τ28 : Mem, τ28 = mup τ1 (15, 1, 0) x2_1.toNatClampNeg 0 →
    ∀ x2_29 : Int32, x2_29 = x2_1 + 1 →
    I2 x2_29 τ28 ∧ μ2 x2_29 τ28 < μ2 x2_1 τ1))
def J_X1_isPossible (j1 : Nat) (σ : Mem) (Q : Int32 → Mem → Prop) : Prop :=
(((σ (15, 0, 0) 0) ≤ (σ (3, 0, 0) 5) →
  ∃ (I17 : Int32 → Prop) (μ17 : Int32 → Nat), I17 0 ∧ ∀ (x2_2 : Int32), I17 x2_2 →
    (((σ (7, j1, 0) 5) ≤ x2_2 →
      Q 1 σ) ∧
    (¬ (σ (7, j1, 0) 5) ≤ x2_2 →
      vp_in x2_2 10 ∧
      vp_in x2_2 10 ∧
      (((σ (15, 0, 0) x2_2.toNatClampNeg) ≤ (σ (13, j1, x2_2.toNatClampNeg) 1) →
        ∀ x2_7 : Int32, x2_7 = x2_2 + 1 →
        I17 x2_7 ∧ μ17 x2_7 < μ17 x2_2) ∧
      (¬ (σ (15, 0, 0) x2_2.toNatClampNeg) ≤ (σ (13, j1, x2_2.toNatClampNeg) 1) →
        Q 0 σ))))) ∧
(¬ (σ (15, 0, 0) 0) ≤ (σ (3, 0, 0) 5) →
  Q 0 σ))
def J_X1_giveGreatestShares (j1 : Nat) (σ : Mem) (Q : Mem → Prop) : Prop :=
∃ (I5 : Int32 → Int32 → Mem → Prop) (μ5 : Int32 → Int32 → Mem → Nat), I5 0 64 σ ∧ ∀ (x2_1 : Int32) (x3_1 : Int32) (τ1 : Mem), I5 x2_1 x3_1 τ1 →
  ((x3_1 ≤ 0 →
    J_X1_giveShares j1 x2_1 τ1 (fun τ3 =>
    Q τ3)) ∧
  (¬ x3_1 ≤ 0 →
    ((100 < (x2_1 + x3_1) →
      ∀ x3_5 : Int32, x3_5 = x3_1 / 2 →
      I5 x2_1 x3_5 τ1 ∧ μ5 x2_1 x3_5 τ1 < μ5 x2_1 x3_1 τ1) ∧
    (¬ 100 < (x2_1 + x3_1) →
      J_X1_giveShares j1 (x2_1 + x3_1) τ1 (fun τ6 =>
      J_X1_spread j1 τ6 (fun τ7 =>
      J_X1_isPossible j1 τ7 (fun r8 τ8 =>
      ((r8 = 0 →
        ∀ x3_10 : Int32, x3_10 = x3_1 / 2 →
        I5 x2_1 x3_10 τ8 ∧ μ5 x2_1 x3_10 τ8 < μ5 x2_1 x3_1 τ1) ∧
      (¬ r8 = 0 →
        ∀ x2_11 : Int32, x2_11 = x2_1 + x3_1 →
        ∀ x3_12 : Int32, x3_12 = x3_1 / 2 →
        I5 x2_11 x3_12 τ8 ∧ μ5 x2_11 x3_12 τ8 < μ5 x2_1 x3_1 τ1)))))))))
def J_X0_passedOf (j0 : Nat) (i0 : Nat) (x1 : Int32) (σ : Mem) (Q : Int32 → Mem → Prop) : Prop :=
Q (x1 - (((x1 * (σ (13, j0, i0) 2)) + 99) / 100)) σ
def J_X1_mostFor (j1 : Nat) (x2 : Int32) (σ : Mem) (Q : Int32 → Mem → Prop) : Prop :=
∀ τ1 : Mem, τ1 = mup σ (15, 2, 0) 0 (if (σ (3, 0, 0) 5) < (σ (13, j1, 0) 1) then (σ (3, 0, 0) 5) else (σ (13, j1, 0) 1)) →
∃ (I24 : Int32 → Mem → Prop) (μ24 : Int32 → Mem → Nat), I24 1 τ1 ∧ ∀ (x3_2 : Int32) (τ2 : Mem), I24 x3_2 τ2 →
  (((τ2 (7, j1, 0) 5) ≤ x3_2 →
    vp_in x2 12 ∧
    ∀ x3_5 : Int32, x3_5 = τ2 (14, j1, x2.toNatClampNeg) 0 →
    vp_in x3_5 10 ∧
    vp_in x3_5 10 ∧
    J_X0_passedOf j1 x3_5.toNatClampNeg (τ2 (15, 2, 0) x3_5.toNatClampNeg) τ2 (fun r8 τ8 =>
    vp_in x3_5 10 ∧
    vp_in x2 12 ∧
    Q (r8 - ((τ8 (15, 1, 0) x3_5.toNatClampNeg) - (τ8 (4, 1, 0) x2.toNatClampNeg))) τ8)) ∧
  (¬ (τ2 (7, j1, 0) 5) ≤ x3_2 →
    vp_in x3_2 10 ∧
    ∀ x4_12 : Int32, x4_12 = τ2 (13, j1, x3_2.toNatClampNeg) 0 →
    vp_in x4_12 10 ∧
    vp_in x4_12 10 ∧
    J_X0_passedOf j1 x4_12.toNatClampNeg (τ2 (15, 2, 0) x4_12.toNatClampNeg) τ2 (fun r15 τ15 =>
    vp_in x4_12 10 ∧
    vp_in x3_2 10 ∧
    ∀ x5_18 : Int32, x5_18 = r15 - ((τ15 (15, 1, 0) x4_12.toNatClampNeg) - (τ15 (15, 0, 0) x3_2.toNatClampNeg)) →
    vp_in x3_2 10 ∧
    vp_in x3_2 10 ∧
    ∀ τ21 : Mem, τ21 = mup τ15 (15, 2, 0) x3_2.toNatClampNeg (if x5_18 < (τ15 (13, j1, x3_2.toNatClampNeg) 1) then x5_18 else (τ15 (13, j1, x3_2.toNatClampNeg) 1)) →
    ∀ x3_22 : Int32, x3_22 = x3_2 + 1 →
    I24 x3_22 τ21 ∧ μ24 x3_22 τ21 < μ24 x3_2 τ2)))
def J_X1_serve (j1 : Nat) (x2 : Int32) (σ : Mem) (Q : Mem → Prop) : Prop :=
vp_in x2 12 ∧
J_X1_mostFor j1 x2 σ (fun r2 τ2 =>
∀ x3_3 : Int32, x3_3 = (if r2 < (σ (4, 0, 0) x2.toNatClampNeg) then r2 else (σ (4, 0, 0) x2.toNatClampNeg)) →
vp_in x2 12 ∧
((x3_3 ≤ (τ2 (4, 1, 0) x2.toNatClampNeg) →
  Q τ2) ∧
(¬ x3_3 ≤ (τ2 (4, 1, 0) x2.toNatClampNeg) →
  vp_in x2 12 ∧
  ∀ τ7 : Mem, τ7 = mup τ2 (4, 1, 0) x2.toNatClampNeg x3_3 →
  J_X1_spread j1 τ7 (fun τ8 =>
  Q τ8))))
def J_X1_distribute_b80 (j1 : Nat)  (b2 : Int32) (τ : Mem) (Q : Mem → Prop) : Prop :=
∃ (I82 : Int32 → Mem → Prop) (μ82 : Int32 → Mem → Nat), I82 0 τ ∧ ∀ (x3_10 : Int32) (τ10 : Mem), I82 x3_10 τ10 →
  (((τ10 (7, j1, 0) 6) ≤ x3_10 →
    Q τ10) ∧
  (¬ (τ10 (7, j1, 0) 6) ≤ x3_10 →
    vp_in x3_10 12 ∧
    ∀ x4_13 : Int32, x4_13 = τ10 (10, j1, 0) x3_10.toNatClampNeg →
    ((x4_13 = b2 →
      ∀ x3_15 : Int32, x3_15 = x3_10 + 1 →
      I82 x3_15 τ10 ∧ μ82 x3_15 τ10 < μ82 x3_10 τ10) ∧
    (¬ x4_13 = b2 →
      J_X1_serve j1 x4_13 τ10 (fun τ16 =>
      ∀ x3_17 : Int32, x3_17 = x3_10 + 1 →
      I82 x3_17 τ16 ∧ μ82 x3_17 τ16 < μ82 x3_10 τ10)))))
def J_X1_distribute_b61 (j1 : Nat)  (b2 : Int32) (τ : Mem) (Q : Mem → Prop) : Prop :=
J_X1_spread j1 τ (fun τ7 =>
J_X2_hasUser j1 b2 τ7 (fun r8 τ8 =>
((r8 = 0 →
  J_X1_distribute_b80 j1 b2 τ8 Q) ∧
(¬ r8 = 0 →
  J_X1_serve j1 b2 τ8 (fun τ18 =>
  J_X1_distribute_b80 j1 b2 τ18 Q)))))
def J_X1_distribute (j1 : Nat) (σ : Mem) (Q : Mem → Prop) : Prop :=
J_X2_supplyNow j1 σ (fun r1 τ1 =>
∀ τ2 : Mem, τ2 = mup τ1 (3, 0, 0) 5 r1 →
J_X2_userInTurn j1 τ2 (fun r3 τ3 =>
∃ (I15 : Int32 → Mem → Prop) (μ15 : Int32 → Mem → Nat), I15 0 τ3 ∧ ∀ (x3_4 : Int32) (τ4 : Mem), I15 x3_4 τ4 →
  (((τ4 (7, j1, 0) 6) ≤ x3_4 →
    ((¬ (τ4 (7, j1, 0) 7) = 2 →
      J_X1_distribute_b61 j1 r3 τ4 Q) ∧
    ((τ4 (7, j1, 0) 7) = 2 →
      J_X1_giveGreatestShares j1 τ4 (fun τ19 =>
      J_X1_distribute_b61 j1 r3 τ19 Q)))) ∧
  (¬ (τ4 (7, j1, 0) 6) ≤ x3_4 →
    J_X2_unitsAsked j1 x3_4 r3 τ4 (fun r20 τ20 =>
    vp_in x3_4 12 ∧
    ∀ τ22 : Mem, τ22 = mup τ20 (4, 0, 0) x3_4.toNatClampNeg r20 →
    vp_in x3_4 12 ∧
    ∀ τ24 : Mem, τ24 = mup τ22 (4, 1, 0) x3_4.toNatClampNeg 0 →
    ∀ x3_25 : Int32, x3_25 = x3_4 + 1 →
    I15 x3_25 τ24 ∧ μ15 x3_25 τ24 < μ15 x3_4 τ4)))))
def J_X5_gets (x1 : Int32) (σ : Mem) (Q : Int32 → Mem → Prop) : Prop :=
J_X2_hasUser 0 x1 σ (fun r1 τ1 =>
((¬ r1 = 0 →
  J_X1_distribute 0 τ1 (fun τ3 =>
  vp_in x1 12 ∧
  Q (τ3 (4, 1, 0) x1.toNatClampNeg) τ3)) ∧
(r1 = 0 →
  Q (-101) τ1)))
def J_X4_copyFrom (j0 : Nat) (i0 : Nat) (j1 : Nat) (i1 : Nat) (σ : Mem) (Q : Mem → Prop) : Prop :=
J_X4_begin j0 i0 (σ (14, j1, i1) 0) (σ (14, j1, i1) 1) (σ (14, j1, i1) 2) σ (fun τ1 =>
∀ τ2 : Mem, τ2 = mup τ1 (14, j0, i0) 3 (τ1 (14, j1, i1) 3) →
∀ τ3 : Mem, τ3 = mup τ2 (14, j0, i0) 4 (τ2 (14, j1, i1) 4) →
∀ τ4 : Mem, τ4 = mup τ3 (14, j0, i0) 5 (τ3 (14, j1, i1) 5) →
∀ τ5 : Mem, τ5 = mup τ4 (14, j0, i0) 6 (τ4 (14, j1, i1) 6) →
∀ τ6 : Mem, τ6 = mup τ5 (14, j0, i0) 7 (τ5 (14, j1, i1) 7) →
∀ τ7 : Mem, τ7 = mup τ6 (14, j0, i0) 8 (τ6 (14, j1, i1) 8) →
∀ τ8 : Mem, τ8 = mup τ7 (14, j0, i0) 9 (τ7 (14, j1, i1) 9) →
∀ τ9 : Mem, τ9 = mup τ8 (14, j0, i0) 10 (τ8 (14, j1, i1) 10) →
isB (τ9 (14, j1, i1) 11) ∧
∀ τ10 : Mem, τ10 = mup τ9 (14, j0, i0) 11 (τ9 (14, j1, i1) 11) →
Q τ10)
def J_X2_copyFrom (j0 : Nat) (j1 : Nat) (σ : Mem) (Q : Mem → Prop) : Prop :=
∀ τ1 : Mem, τ1 = mup σ (7, j0, 0) 5 (σ (7, j1, 0) 5) →
∃ (I10 : Int32 → Mem → Prop) (μ10 : Int32 → Mem → Nat), I10 0 τ1 ∧ ∀ (x2_2 : Int32) (τ2 : Mem), I10 x2_2 τ2 →
  (((τ2 (7, j0, 0) 5) ≤ x2_2 →
    ∀ τ4 : Mem, τ4 = mup τ2 (7, j0, 0) 6 (τ2 (7, j1, 0) 6) →
    ∃ (I62 : Int32 → Mem → Prop) (μ62 : Int32 → Mem → Nat), I62 0 τ4 ∧ ∀ (x2_5 : Int32) (τ5 : Mem), I62 x2_5 τ5 →
      (((τ5 (7, j0, 0) 6) ≤ x2_5 →
        ∃ (I105 : Int32 → Mem → Prop) (μ105 : Int32 → Mem → Nat), I105 0 τ5 ∧ ∀ (x2_7 : Int32) (τ7 : Mem), I105 x2_7 τ7 →
          ((24 ≤ x2_7 →
            ∃ (I131 : Int32 → Mem → Prop) (μ131 : Int32 → Mem → Nat), I131 0 τ7 ∧ ∀ (x2_9 : Int32) (τ9 : Mem), I131 x2_9 τ9 →
              ((7 ≤ x2_9 →
                ∀ τ11 : Mem, τ11 = mup τ9 (7, j0, 0) 7 (τ9 (7, j1, 0) 7) →
                ∀ τ12 : Mem, τ12 = mup τ11 (7, j0, 0) 8 (τ11 (7, j1, 0) 8) →
                ∀ τ13 : Mem, τ13 = mup τ12 (7, j0, 0) 9 (τ12 (7, j1, 0) 9) →
                Q τ13) ∧
              (¬ 7 ≤ x2_9 →
                vp_in x2_9 7 ∧
                vp_in x2_9 7 ∧
                ∀ τ16 : Mem, τ16 = mup τ9 (12, j0, 0) x2_9.toNatClampNeg (τ9 (12, j1, 0) x2_9.toNatClampNeg) →
                ∀ x2_17 : Int32, x2_17 = x2_9 + 1 →
                I131 x2_17 τ16 ∧ μ131 x2_17 τ16 < μ131 x2_9 τ9))) ∧
          (¬ 24 ≤ x2_7 →
            vp_in x2_7 24 ∧
            vp_in x2_7 24 ∧
            ∀ τ20 : Mem, τ20 = mup τ7 (11, j0, 0) x2_7.toNatClampNeg (τ7 (11, j1, 0) x2_7.toNatClampNeg) →
            ∀ x2_21 : Int32, x2_21 = x2_7 + 1 →
            I105 x2_21 τ20 ∧ μ105 x2_21 τ20 < μ105 x2_7 τ7))) ∧
      (¬ (τ5 (7, j0, 0) 6) ≤ x2_5 →
        vp_in x2_5 12 ∧
        vp_in x2_5 12 ∧
        J_X4_copyFrom j0 x2_5.toNatClampNeg j1 x2_5.toNatClampNeg τ5 (fun τ24 =>
        vp_in x2_5 12 ∧
        vp_in x2_5 12 ∧
        ∀ τ27 : Mem, τ27 = mup τ24 (10, j0, 0) x2_5.toNatClampNeg (τ24 (10, j1, 0) x2_5.toNatClampNeg) →
        ∀ x2_28 : Int32, x2_28 = x2_5 + 1 →
        I62 x2_28 τ27 ∧ μ62 x2_28 τ27 < μ62 x2_5 τ5)))) ∧
  (¬ (τ2 (7, j0, 0) 5) ≤ x2_2 →
    vp_in x2_2 10 ∧
    vp_in x2_2 10 ∧
    J_X0_begin j0 x2_2.toNatClampNeg (τ2 (13, j1, x2_2.toNatClampNeg) 0) (τ2 (13, j1, x2_2.toNatClampNeg) 1) (τ2 (13, j1, x2_2.toNatClampNeg) 2) τ2 (fun τ31 =>
    ∀ x2_32 : Int32, x2_32 = x2_2 + 1 →
    I10 x2_32 τ31 ∧ μ10 x2_32 τ31 < μ10 x2_2 τ2)))
def J_X5_save (x1 : Int32) (σ : Mem) (Q : Int32 → Mem → Prop) : Prop :=
J_X5_isWithin x1 0 1 σ (fun r1 τ1 =>
((¬ r1 = 0 →
  vp_in x1 2 ∧
  J_X2_copyFrom (2 + x1.toNatClampNeg) 0 τ1 (fun τ4 =>
  vp_in x1 2 ∧
  ∀ τ6 : Mem, τ6 = mup τ4 (2, 0, 0) x1.toNatClampNeg (vp_nar .boolean 1) →
  Q (τ6 (7, 0, 0) 9) τ6)) ∧
(r1 = 0 →
  Q (-101) τ1)))
def J_X5_time (σ : Mem) (Q : Int32 → Mem → Prop) : Prop :=
Q (σ (7, 0, 0) 9) σ
def J_X2_isYounger (j0 : Nat) (x1 : Int32) (x2 : Int32) (σ : Mem) (Q : Int32 → Mem → Prop) : Prop :=
vp_in x1 12 ∧
∀ x3_2 : Int32, x3_2 = σ (14, j0, x1.toNatClampNeg) 1 →
vp_in x2 12 ∧
∀ x4_4 : Int32, x4_4 = σ (14, j0, x2.toNatClampNeg) 1 →
((x4_4 < x3_2 →
  Q 1 σ) ∧
(¬ x4_4 < x3_2 →
  ((¬ x3_2 = x4_4 →
    Q 0 σ) ∧
  (x3_2 = x4_4 →
    ((x1 ≤ x2 →
      Q 0 σ) ∧
    (¬ x1 ≤ x2 →
      Q 1 σ))))))
def J_X5_gainOf (x1 : Int32) (x2 : Int32) (σ : Mem) (Q : Int32 → Mem → Prop) : Prop :=
J_X1_distribute 0 σ (fun τ1 =>
vp_in x1 12 ∧
∀ x3_3 : Int32, x3_3 = τ1 (4, 1, 0) x1.toNatClampNeg →
J_X2_copyFrom 1 0 τ1 (fun τ4 =>
vp_in x2 12 ∧
∀ τ6 : Mem, τ6 = mup τ4 (14, 1, x2.toNatClampNeg) 11 1 →
J_X1_distribute 1 τ6 (fun τ7 =>
vp_in x1 12 ∧
Q ((τ7 (4, 1, 0) x1.toNatClampNeg) - x3_3) τ7)))
def J_X5_gain (x1 : Int32) (x2 : Int32) (σ : Mem) (Q : Int32 → Mem → Prop) : Prop :=
J_X2_hasUser 0 x1 σ (fun r1 τ1 =>
((r1 = 0 →
  Q (-101) τ1) ∧
(¬ r1 = 0 →
  J_X2_hasUser 0 x2 τ1 (fun r3 τ3 =>
  ((¬ r3 = 0 →
    J_X2_isYounger 0 x2 x1 τ3 (fun r5 τ5 =>
    ((¬ r5 = 0 →
      J_X5_gainOf x1 x2 τ5 (fun r7 τ7 =>
      Q r7 τ7)) ∧
    (r5 = 0 →
      Q (-103) τ5)))) ∧
  (r3 = 0 →
    Q (-101) τ3))))))
def J_X1_isContent (x1 : Int32) (σ : Mem) (Q : Int32 → Mem → Prop) : Prop :=
vp_in x1 12 ∧
vp_in x1 12 ∧
((¬ (σ (4, 1, 0) x1.toNatClampNeg) = (σ (4, 0, 0) x1.toNatClampNeg) →
  Q 0 σ) ∧
((σ (4, 1, 0) x1.toNatClampNeg) = (σ (4, 0, 0) x1.toNatClampNeg) →
  Q 1 σ))
def J_X5_judge (x1 : Int32) (x2 : Int32) (σ : Mem) (Q : Int32 → Mem → Prop) : Prop :=
J_X1_distribute 0 σ (fun τ1 =>
vp_in x2 12 ∧
∀ x3_3 : Int32, x3_3 = τ1 (4, 1, 0) x2.toNatClampNeg →
J_X1_isContent x1 τ1 (fun r4 τ4 =>
((¬ r4 = 0 →
  Q 0 τ4) ∧
(r4 = 0 →
  ((¬ x3_3 = 0 →
    J_X5_gainOf x1 x2 τ4 (fun r7 τ7 =>
    ((r7 = 0 →
      Q 1 τ7) ∧
    (¬ r7 = 0 →
      ((((τ7 (7, 0, 0) 8) * x3_3) ≤ (100 * r7) →
        Q 2 τ7) ∧
      (¬ ((τ7 (7, 0, 0) 8) * x3_3) ≤ (100 * r7) →
        Q 1 τ7)))))) ∧
  (x3_3 = 0 →
    Q 0 τ4))))))
def J_X5_complaint (x1 : Int32) (x2 : Int32) (σ : Mem) (Q : Int32 → Mem → Prop) : Prop :=
J_X2_hasUser 0 x1 σ (fun r1 τ1 =>
((r1 = 0 →
  Q (-101) τ1) ∧
(¬ r1 = 0 →
  J_X2_hasUser 0 x2 τ1 (fun r3 τ3 =>
  ((¬ r3 = 0 →
    J_X2_isYounger 0 x2 x1 τ3 (fun r5 τ5 =>
    ((¬ r5 = 0 →
      J_X5_judge x1 x2 τ5 (fun r7 τ7 =>
      Q r7 τ7)) ∧
    (r5 = 0 →
      Q (-103) τ5)))) ∧
  (r3 = 0 →
    Q (-101) τ3))))))
def J_X5_restore (x1 : Int32) (σ : Mem) (Q : Int32 → Mem → Prop) : Prop :=
J_X5_isWithin x1 0 1 σ (fun r1 τ1 =>
((¬ r1 = 0 →
  vp_in x1 2 ∧
  ((¬ (τ1 (2, 0, 0) x1.toNatClampNeg) = 0 →
    vp_in x1 2 ∧
    J_X2_copyFrom 0 (2 + x1.toNatClampNeg) τ1 (fun τ6 =>
    Q (τ6 (7, 0, 0) 9) τ6)) ∧
  ((τ1 (2, 0, 0) x1.toNatClampNeg) = 0 →
    Q (-103) τ1))) ∧
(r1 = 0 →
  Q (-101) τ1)))
def J_X5_turn (σ : Mem) (Q : Int32 → Mem → Prop) : Prop :=
J_X2_userInTurn 0 σ (fun r1 τ1 =>
Q r1 τ1)
def J_X5_inflow (x1 : Int32) (σ : Mem) (Q : Int32 → Mem → Prop) : Prop :=
J_X2_hasDitch 0 x1 σ (fun r1 τ1 =>
((¬ r1 = 0 →
  J_X1_distribute 0 τ1 (fun τ3 =>
  vp_in x1 10 ∧
  Q (τ3 (15, 0, 0) x1.toNatClampNeg) τ3)) ∧
(r1 = 0 →
  Q (-101) τ1)))
def J_X1_lostIn (x1 : Int32) (σ : Mem) (Q : Int32 → Mem → Prop) : Prop :=
vp_in x1 10 ∧
vp_in x1 10 ∧
Q ((σ (15, 0, 0) x1.toNatClampNeg) - (σ (15, 1, 0) x1.toNatClampNeg)) σ
def J_X5_loses (x1 : Int32) (σ : Mem) (Q : Int32 → Mem → Prop) : Prop :=
J_X2_hasDitch 0 x1 σ (fun r1 τ1 =>
((¬ r1 = 0 →
  J_X1_distribute 0 τ1 (fun τ3 =>
  J_X1_lostIn x1 τ3 (fun r4 τ4 =>
  Q r4 τ4))) ∧
(r1 = 0 →
  Q (-101) τ1)))
def J_X1_ditchAgainstOneMore (j1 : Nat) (x2 : Int32) (σ : Mem) (Q : Int32 → Mem → Prop) : Prop :=
vp_in x2 12 ∧
vp_in x2 12 ∧
∀ τ3 : Mem, τ3 = mup σ (4, 1, 0) x2.toNatClampNeg ((σ (4, 1, 0) x2.toNatClampNeg) + 1) →
J_X1_spread j1 τ3 (fun τ4 =>
vp_in x2 12 ∧
∀ x3_6 : Int32, x3_6 = τ4 (14, j1, x2.toNatClampNeg) 0 →
∃ (I28 : Int32 → Int32 → Prop) (μ28 : Int32 → Int32 → Nat), I28 x3_6 0 ∧ ∀ (x3_7 : Int32) (x4_7 : Int32), I28 x3_7 x4_7 →
  (((τ4 (7, j1, 0) 5) ≤ x4_7 →
    Q (-105) τ4) ∧
  (¬ (τ4 (7, j1, 0) 5) ≤ x4_7 →
    vp_in x3_7 10 ∧
    vp_in x3_7 10 ∧
    (((τ4 (15, 0, 0) x3_7.toNatClampNeg) ≤ (τ4 (13, j1, x3_7.toNatClampNeg) 1) →
      vp_in x3_7 10 ∧
      ∀ x3_13 : Int32, x3_13 = τ4 (13, j1, x3_7.toNatClampNeg) 0 →
      ∀ x4_14 : Int32, x4_14 = x4_7 + 1 →
      I28 x3_13 x4_14 ∧ μ28 x3_13 x4_14 < μ28 x3_7 x4_7) ∧
    (¬ (τ4 (15, 0, 0) x3_7.toNatClampNeg) ≤ (τ4 (13, j1, x3_7.toNatClampNeg) 1) →
      Q x3_7 τ4)))))
def J_X5_limit (x1 : Int32) (σ : Mem) (Q : Int32 → Mem → Prop) : Prop :=
J_X2_hasUser 0 x1 σ (fun r1 τ1 =>
((¬ r1 = 0 →
  J_X1_distribute 0 τ1 (fun τ3 =>
  J_X1_isContent x1 τ3 (fun r4 τ4 =>
  ((r4 = 0 →
    J_X1_ditchAgainstOneMore 0 x1 τ4 (fun r6 τ6 =>
    Q r6 τ6)) ∧
  (¬ r4 = 0 →
    Q (-103) τ4))))) ∧
(r1 = 0 →
  Q (-101) τ1)))
def J_X5_asks (x1 : Int32) (σ : Mem) (Q : Int32 → Mem → Prop) : Prop :=
J_X2_hasUser 0 x1 σ (fun r1 τ1 =>
((¬ r1 = 0 →
  J_X2_userInTurn 0 τ1 (fun r3 τ3 =>
  J_X2_unitsAsked 0 x1 r3 τ3 (fun r4 τ4 =>
  Q r4 τ4))) ∧
(r1 = 0 →
  Q (-101) τ1)))
def J_X1_unitsGot (j1 : Nat) (σ : Mem) (Q : Int32 → Mem → Prop) : Prop :=
∃ (I4 : Int32 → Int32 → Prop) (μ4 : Int32 → Int32 → Nat), I4 0 0 ∧ ∀ (x2_1 : Int32) (x3_1 : Int32), I4 x2_1 x3_1 →
  (((σ (7, j1, 0) 6) ≤ x3_1 →
    Q x2_1 σ) ∧
  (¬ (σ (7, j1, 0) 6) ≤ x3_1 →
    vp_in x3_1 12 ∧
    ∀ x2_4 : Int32, x2_4 = x2_1 + (σ (4, 1, 0) x3_1.toNatClampNeg) →
    ∀ x3_5 : Int32, x3_5 = x3_1 + 1 →
    I4 x2_4 x3_5 ∧ μ4 x2_4 x3_5 < μ4 x2_1 x3_1))
def J_X5_unitsGotInTrial (x1 : Int32) (x2 : Int32) (σ : Mem) (Q : Int32 → Mem → Prop) : Prop :=
vp_in x1 10 ∧
∀ τ2 : Mem, τ2 = mup σ (13, 1, x1.toNatClampNeg) 1 x2 →
J_X1_distribute 1 τ2 (fun τ3 =>
J_X1_unitsGot 1 τ3 (fun r4 τ4 =>
Q r4 τ4))
def J_X5_usefulGate (x1 : Int32) (σ : Mem) (Q : Int32 → Mem → Prop) : Prop :=
J_X2_hasDitch 0 x1 σ (fun r1 τ1 =>
((¬ r1 = 0 →
  J_X2_copyFrom 1 0 τ1 (fun τ3 =>
  J_X5_unitsGotInTrial x1 200 τ3 (fun r4 τ4 =>
  ∃ (I36 : Int32 → Mem → Prop) (μ36 : Int32 → Mem → Nat), I36 1 τ4 ∧ ∀ (x3_5 : Int32) (τ5 : Mem), I36 x3_5 τ5 →
    ((200 ≤ x3_5 →
      Q 200 τ5) ∧
    (¬ 200 ≤ x3_5 →
      J_X5_unitsGotInTrial x1 x3_5 τ5 (fun r7 τ7 =>
      ((¬ r7 = r4 →
        ∀ x3_9 : Int32, x3_9 = x3_5 + 1 →
        I36 x3_9 τ7 ∧ μ36 x3_9 τ7 < μ36 x3_5 τ5) ∧
      (r7 = r4 →
        Q x3_5 τ7)))))))) ∧
(r1 = 0 →
  Q (-101) τ1)))
def J_X5_withUser (y1 : Int64) (x3 : Int32) (σ : Mem) (Q : Int64 → Mem → Prop) : Prop :=
vp_in x3 12 ∧
vp_in x3 12 ∧
∀ y5_3 : Int64, y5_3 = ((31 : Int64) * y1) + ((σ (4, 0, 0) x3.toNatClampNeg).toInt64) →
vp_in x3 12 ∧
∀ y5_5 : Int64, y5_5 = ((31 : Int64) * y5_3) + ((σ (4, 1, 0) x3.toNatClampNeg).toInt64) →
∀ y5_6 : Int64, y5_6 = ((31 : Int64) * y5_5) + ((σ (14, 0, x3.toNatClampNeg) 7).toInt64) →
∀ y5_7 : Int64, y5_7 = ((31 : Int64) * y5_6) + ((σ (14, 0, x3.toNatClampNeg) 10).toInt64) →
(((σ (14, 0, x3.toNatClampNeg) 11) = 0 →
  Q (((31 : Int64) * y5_7) + ((0 : Int32).toInt64)) σ) ∧
(¬ (σ (14, 0, x3.toNatClampNeg) 11) = 0 →
  Q (((31 : Int64) * y5_7) + ((1 : Int32).toInt64)) σ))
def J_X5_checksum (σ : Mem) (Q : Int64 → Mem → Prop) : Prop :=
J_X1_distribute 0 σ (fun τ1 =>
∀ y1_2 : Int64, y1_2 = (53 : Int64) →
∀ y1_3 : Int64, y1_3 = ((31 : Int64) * y1_2) + ((τ1 (7, 0, 0) 9).toInt64) →
∀ y1_4 : Int64, y1_4 = ((31 : Int64) * y1_3) + ((τ1 (7, 0, 0) 5).toInt64) →
∀ y1_5 : Int64, y1_5 = ((31 : Int64) * y1_4) + ((τ1 (7, 0, 0) 6).toInt64) →
∃ (I62 : Int64 → Int32 → Mem → Prop) (μ62 : Int64 → Int32 → Mem → Nat), I62 y1_5 0 τ1 ∧ ∀ (y1_6 : Int64) (x3_6 : Int32) (τ6 : Mem), I62 y1_6 x3_6 τ6 →
  (((τ6 (7, 0, 0) 5) ≤ x3_6 →
    ∃ (I114 : Int64 → Int32 → Mem → Prop) (μ114 : Int64 → Int32 → Mem → Nat), I114 y1_6 0 τ6 ∧ ∀ (y1_8 : Int64) (x3_8 : Int32) (τ8 : Mem), I114 y1_8 x3_8 τ8 →
      (((τ8 (7, 0, 0) 6) ≤ x3_8 →
        ∃ (I140 : Int64 → Int32 → Prop) (μ140 : Int64 → Int32 → Nat), I140 y1_8 0 ∧ ∀ (y1_10 : Int64) (x3_10 : Int32), I140 y1_10 x3_10 →
          ((7 ≤ x3_10 →
            J_X2_userInTurn 0 τ8 (fun r12 τ12 =>
            Q (((31 : Int64) * y1_10) + r12.toInt64) τ12)) ∧
          (¬ 7 ≤ x3_10 →
            vp_in x3_10 7 ∧
            ∀ y1_14 : Int64, y1_14 = ((31 : Int64) * y1_10) + ((τ8 (12, 0, 0) x3_10.toNatClampNeg).toInt64) →
            ∀ x3_15 : Int32, x3_15 = x3_10 + 1 →
            I140 y1_14 x3_15 ∧ μ140 y1_14 x3_15 < μ140 y1_10 x3_10))) ∧
      (¬ (τ8 (7, 0, 0) 6) ≤ x3_8 →
        J_X5_withUser y1_8 x3_8 τ8 (fun r16 τ16 =>
        ∀ x3_17 : Int32, x3_17 = x3_8 + 1 →
        I114 r16 x3_17 τ16 ∧ μ114 r16 x3_17 τ16 < μ114 y1_8 x3_8 τ8)))) ∧
  (¬ (τ6 (7, 0, 0) 5) ≤ x3_6 →
    vp_in x3_6 10 ∧
    ∀ y1_19 : Int64, y1_19 = ((31 : Int64) * y1_6) + ((τ6 (15, 0, 0) x3_6.toNatClampNeg).toInt64) →
    J_X1_lostIn x3_6 τ6 (fun r20 τ20 =>
    ∀ y1_21 : Int64, y1_21 = ((31 : Int64) * y1_19) + r20.toInt64 →
    ∀ x3_22 : Int32, x3_22 = x3_6 + 1 →
    I62 y1_21 x3_22 τ20 ∧ μ62 y1_21 x3_22 τ20 < μ62 y1_6 x3_6 τ6))))
def J_X5_setTurn (x1 : Int32) (x2 : Int32) (σ : Mem) (Q : Int32 → Mem → Prop) : Prop :=
J_X2_hasUser 0 x1 σ (fun r1 τ1 =>
((¬ r1 = 0 →
  J_X5_isWithin x2 0 24 τ1 (fun r3 τ3 =>
  ((¬ r3 = 0 →
    vp_in x1 12 ∧
    ∀ x4_6 : Int32, x4_6 = τ3 (14, 0, x1.toNatClampNeg) 9 →
    ∀ τ7 : Mem, τ7 = mup τ3 (14, 0, x1.toNatClampNeg) 9 x2 →
    Q x4_6 τ7) ∧
  (r3 = 0 →
    Q (-102) τ3)))) ∧
(r1 = 0 →
  Q (-101) τ1)))
def J_X5_setFutile (x1 : Int32) (σ : Mem) (Q : Int32 → Mem → Prop) : Prop :=
J_X5_isWithin x1 0 100 σ (fun r1 τ1 =>
((¬ r1 = 0 →
  ∀ x2_3 : Int32, x2_3 = τ1 (7, 0, 0) 8 →
  ∀ τ4 : Mem, τ4 = mup τ1 (7, 0, 0) 8 x1 →
  Q x2_3 τ4) ∧
(r1 = 0 →
  Q (-102) τ1)))
def J_X2_useWater (j0 : Nat) (j1 : Nat) (i1 : Nat) (x2 : Int32) (σ : Mem) (Q : Mem → Prop) : Prop :=
J_X2_hourOfDay j0 σ (fun r1 τ1 =>
J_X4_needAt j1 i1 r1 τ1 (fun r2 τ2 =>
∀ x4_3 : Int32, x4_3 = x2 + (τ2 (14, j1, i1) 7) →
∀ x5_4 : Int32, x5_4 = (if x4_3 < r2 then x4_3 else r2) →
∀ x6_5 : Int32, x6_5 = (if (x4_3 - x5_4) < (τ2 (14, j1, i1) 8) then (x4_3 - x5_4) else (τ2 (14, j1, i1) 8)) →
∀ τ6 : Mem, τ6 = mup τ2 (14, j1, i1) 7 ((x4_3 - x5_4) - x6_5) →
∀ τ7 : Mem, τ7 = mup τ6 (14, j1, i1) 10 ((τ6 (14, j1, i1) 10) + (r2 - x5_4)) →
∀ τ8 : Mem, τ8 = mup τ7 (14, j1, i1) 11 0 →
∀ τ9 : Mem, τ9 = mup τ8 (12, j0, 0) 3 ((τ8 (12, j0, 0) 3) + x2) →
∀ τ10 : Mem, τ10 = mup τ9 (12, j0, 0) 4 ((τ9 (12, j0, 0) 4) + x5_4) →
∀ τ11 : Mem, τ11 = mup τ10 (12, j0, 0) 5 ((τ10 (12, j0, 0) 5) + x6_5) →
∀ τ12 : Mem, τ12 = mup τ11 (12, j0, 0) 6 ((τ11 (12, j0, 0) 6) + (r2 - x5_4)) →
Q τ12))
def J_X2_passHour (j0 : Nat) (σ : Mem) (Q : Int32 → Mem → Prop) : Prop :=
J_X1_distribute j0 σ (fun τ1 =>
∀ x2_2 : Int32, x2_2 = τ1 (12, j0, 0) 6 →
∀ τ3 : Mem, τ3 = mup τ1 (12, j0, 0) 0 ((τ1 (12, j0, 0) 0) + (τ1 (15, 0, 0) 0)) →
J_X2_supplyNow j0 τ3 (fun r4 τ4 =>
∀ τ5 : Mem, τ5 = mup τ4 (12, j0, 0) 1 ((τ3 (12, j0, 0) 1) + (r4 - (τ4 (15, 0, 0) 0))) →
∃ (I50 : Int32 → Mem → Prop) (μ50 : Int32 → Mem → Nat), I50 0 τ5 ∧ ∀ (x3_6 : Int32) (τ6 : Mem), I50 x3_6 τ6 →
  (((τ6 (7, j0, 0) 5) ≤ x3_6 →
    ∃ (I80 : Int32 → Mem → Prop) (μ80 : Int32 → Mem → Nat), I80 0 τ6 ∧ ∀ (x3_8 : Int32) (τ8 : Mem), I80 x3_8 τ8 →
      (((τ8 (7, j0, 0) 6) ≤ x3_8 →
        ∀ τ10 : Mem, τ10 = mup τ8 (7, j0, 0) 9 ((τ8 (7, j0, 0) 9) + 1) →
        Q ((τ10 (12, j0, 0) 6) - x2_2) τ10) ∧
      (¬ (τ8 (7, j0, 0) 6) ≤ x3_8 →
        vp_in x3_8 12 ∧
        vp_in x3_8 12 ∧
        J_X2_useWater j0 j0 x3_8.toNatClampNeg (τ8 (4, 1, 0) x3_8.toNatClampNeg) τ8 (fun τ13 =>
        ∀ x3_14 : Int32, x3_14 = x3_8 + 1 →
        I80 x3_14 τ13 ∧ μ80 x3_14 τ13 < μ80 x3_8 τ8)))) ∧
  (¬ (τ6 (7, j0, 0) 5) ≤ x3_6 →
    J_X1_lostIn x3_6 τ6 (fun r15 τ15 =>
    ∀ τ16 : Mem, τ16 = mup τ15 (12, j0, 0) 2 ((τ6 (12, j0, 0) 2) + r15) →
    ∀ x3_17 : Int32, x3_17 = x3_6 + 1 →
    I50 x3_17 τ16 ∧ μ50 x3_17 τ16 < μ50 x3_6 τ6)))))
def J_X5_advance (x1 : Int32) (σ : Mem) (Q : Int32 → Mem → Prop) : Prop :=
J_X5_isWithin x1 1 48 σ (fun r1 τ1 =>
((¬ r1 = 0 →
  ∃ (I17 : Int32 → Int32 → Mem → Prop) (μ17 : Int32 → Int32 → Mem → Nat), I17 0 0 τ1 ∧ ∀ (x2_3 : Int32) (x3_3 : Int32) (τ3 : Mem), I17 x2_3 x3_3 τ3 →
    ((x1 ≤ x3_3 →
      Q x2_3 τ3) ∧
    (¬ x1 ≤ x3_3 →
      J_X2_passHour 0 τ3 (fun r5 τ5 =>
      ∀ x2_6 : Int32, x2_6 = x2_3 + r5 →
      ∀ x3_7 : Int32, x3_7 = x3_3 + 1 →
      I17 x2_6 x3_7 τ5 ∧ μ17 x2_6 x3_7 τ5 < μ17 x2_3 x3_3 τ3)))) ∧
(r1 = 0 →
  Q (-102) τ1)))
def J_X5_willMiss (x1 : Int32) (x2 : Int32) (σ : Mem) (Q : Int32 → Mem → Prop) : Prop :=
J_X2_hasUser 0 x1 σ (fun r1 τ1 =>
((¬ r1 = 0 →
  J_X5_isWithin x2 1 48 τ1 (fun r3 τ3 =>
  ((¬ r3 = 0 →
    J_X2_copyFrom 1 0 τ3 (fun τ5 =>
    ∃ (I40 : Int32 → Mem → Prop) (μ40 : Int32 → Mem → Nat), I40 0 τ5 ∧ ∀ (x3_6 : Int32) (τ6 : Mem), I40 x3_6 τ6 →
      ((x2 ≤ x3_6 →
        vp_in x1 12 ∧
        vp_in x1 12 ∧
        Q ((τ6 (14, 1, x1.toNatClampNeg) 10) - (τ6 (14, 0, x1.toNatClampNeg) 10)) τ6) ∧
      (¬ x2 ≤ x3_6 →
        J_X2_passHour 1 τ6 (fun r10 τ10 =>
        ∀ x3_11 : Int32, x3_11 = x3_6 + 1 →
        I40 x3_11 τ10 ∧ μ40 x3_11 τ10 < μ40 x3_6 τ6))))) ∧
  (r3 = 0 →
    Q (-102) τ3)))) ∧
(r1 = 0 →
  Q (-101) τ1)))
def J_X3_isFull (σ : Mem) (Q : Int32 → Mem → Prop) : Prop :=
(((σ (5, 0, 0) 0) < 100 →
  Q 0 σ) ∧
(¬ (σ (5, 0, 0) 0) < 100 →
  Q 1 σ))
def J_X3_put (x1 : Int32) (σ : Mem) (Q : Mem → Prop) : Prop :=
J_X3_isFull  σ (fun r1 τ1 =>
((r1 = 0 →
  vp_in (τ1 (5, 0, 0) 0) 100 ∧
  ∀ τ4 : Mem, τ4 = mup τ1 (6, 0, 0) ((τ1 (5, 0, 0) 0).toNatClampNeg) (vp_nar .char ((x1.toUInt32 % 65536).toInt32)) →
  ∀ τ5 : Mem, τ5 = mup τ4 (5, 0, 0) 0 ((τ4 (5, 0, 0) 0) + 1) →
  Q τ5) ∧
(¬ r1 = 0 →
  Q τ1)))
def J_X5_append (x1 : Int32) (σ : Mem) (Q : Int32 → Mem → Prop) : Prop :=
J_X5_isWithin x1 0 127 σ (fun r1 τ1 =>
((¬ r1 = 0 →
  J_X3_isFull  τ1 (fun r3 τ3 =>
  ((r3 = 0 →
    J_X3_put x1 τ3 (fun τ5 =>
    Q (τ5 (5, 0, 0) 0) τ5)) ∧
  (¬ r3 = 0 →
    Q (-104) τ3)))) ∧
(r1 = 0 →
  Q (-102) τ1)))
def J_X5_isShut (x1 : Int32) (σ : Mem) (Q : Int32 → Mem → Prop) : Prop :=
J_X2_hasUser 0 x1 σ (fun r1 τ1 =>
((¬ r1 = 0 →
  vp_in x1 12 ∧
  (((τ1 (14, 0, x1.toNatClampNeg) 11) = 0 →
    Q 0 τ1) ∧
  (¬ (τ1 (14, 0, x1.toNatClampNeg) 11) = 0 →
    Q 1 τ1))) ∧
(r1 = 0 →
  Q (-101) τ1)))
def J_X5_settle (σ : Mem) (Q : Int32 → Mem → Prop) : Prop :=
∃ (I4 : Int32 → Int32 → Mem → Prop) (μ4 : Int32 → Int32 → Mem → Nat), I4 0 0 σ ∧ ∀ (x1_1 : Int32) (x2_1 : Int32) (τ1 : Mem), I4 x1_1 x2_1 τ1 →
  (((τ1 (7, 0, 0) 6) ≤ x2_1 →
    Q x1_1 τ1) ∧
  (¬ (τ1 (7, 0, 0) 6) ≤ x2_1 →
    ∀ x3_3 : Int32, x3_3 = (τ1 (7, 0, 0) 6) - 1 →
    ∃ (I25 : Int32 → Int32 → Mem → Prop) (μ25 : Int32 → Int32 → Mem → Nat), I25 x1_1 x3_3 τ1 ∧ ∀ (x1_4 : Int32) (x3_4 : Int32) (τ4 : Mem), I25 x1_4 x3_4 τ4 →
      ((x3_4 ≤ x2_1 →
        ∀ x2_6 : Int32, x2_6 = x2_1 + 1 →
        I4 x1_4 x2_6 τ4 ∧ μ4 x1_4 x2_6 τ4 < μ4 x1_1 x2_1 τ1) ∧
      (¬ x3_4 ≤ x2_1 →
        vp_in x2_1 12 ∧
        vp_in x3_4 12 ∧
        J_X5_judge (τ4 (10, 0, 0) x2_1.toNatClampNeg) (τ4 (10, 0, 0) x3_4.toNatClampNeg) τ4 (fun r9 τ9 =>
        ((¬ r9 = 2 →
          ∀ x3_11 : Int32, x3_11 = x3_4 + (-1) →
          I25 x1_4 x3_11 τ9 ∧ μ25 x1_4 x3_11 τ9 < μ25 x1_4 x3_4 τ4) ∧
        (r9 = 2 →
          vp_in x3_4 12 ∧
          vp_in (τ9 (10, 0, 0) x3_4.toNatClampNeg) 12 ∧
          ∀ τ14 : Mem, τ14 = mup τ9 (14, 0, ((τ9 (10, 0, 0) x3_4.toNatClampNeg).toNatClampNeg)) 11 1 →
          ∀ x1_15 : Int32, x1_15 = x1_4 + 1 →
          ∀ x3_16 : Int32, x3_16 = x3_4 + (-1) →
          I25 x1_15 x3_16 τ14 ∧ μ25 x1_15 x3_16 τ14 < μ25 x1_4 x3_4 τ4)))))))
def J_X5_account (x1 : Int32) (σ : Mem) (Q : Int32 → Mem → Prop) : Prop :=
J_X5_isWithin x1 0 6 σ (fun r1 τ1 =>
((r1 = 0 →
  Q (-102) τ1) ∧
(¬ r1 = 0 →
  vp_in x1 7 ∧
  Q (τ1 (12, 0, 0) x1.toNatClampNeg) τ1)))
