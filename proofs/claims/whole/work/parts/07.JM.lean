def J_X6_in (x0 : Int32) (x1 : Int32) (x2 : Int32) (σ : Mem) (Q : Int32 → Mem → Prop) : Prop :=
((x0 < x1 →
  Q 0 σ) ∧
(¬ x0 < x1 →
  ((x2 < x0 →
    Q 0 σ) ∧
  (¬ x2 < x0 →
    Q 1 σ))))
def J_X6_account (x1 : Int32) (σ : Mem) (Q : Int32 → Mem → Prop) : Prop :=
J_X6_in x1 0 6 σ (fun r1 τ1 =>
((r1 = 0 →
  Q (-102) τ1) ∧
(¬ r1 = 0 →
  vp_in (5 + x1) 214 ∧
  Q (τ1 (1, 0, 0) ((5 + x1).toNatClampNeg)) τ1)))
def J_X6_isDitch (x1 : Int32) (σ : Mem) (Q : Int32 → Mem → Prop) : Prop :=
J_X6_in x1 0 ((σ (1, 0, 0) 1) - 1) σ (fun r1 τ1 =>
isB r1 ∧
Q r1 τ1)
def J_X6_isGate (x0 : Int32) (x1 : Int32) (σ : Mem) (Q : Int32 → Mem → Prop) : Prop :=
J_X6_in x0 1 200 σ (fun r1 τ1 =>
((r1 = 0 →
  Q 0 τ1) ∧
(¬ r1 = 0 →
  J_X6_in x1 0 50 τ1 (fun r3 τ3 =>
  ((r3 = 0 →
    Q 0 τ3) ∧
  (¬ r3 = 0 →
    Q 1 τ3))))))
def J_X6_addsDitch (x1 : Int32) (x2 : Int32) (x3 : Int32) (σ : Mem) (Q : Int32 → Mem → Prop) : Prop :=
∀ x4_1 : Int32, x4_1 = σ (1, 0, 0) 1 →
vp_in (40 + x4_1) 214 ∧
∀ τ3 : Mem, τ3 = mup σ (1, 0, 0) ((40 + x4_1).toNatClampNeg) x1 →
vp_in (50 + x4_1) 214 ∧
∀ τ5 : Mem, τ5 = mup τ3 (1, 0, 0) ((50 + x4_1).toNatClampNeg) x2 →
vp_in (60 + x4_1) 214 ∧
∀ τ7 : Mem, τ7 = mup τ5 (1, 0, 0) ((60 + x4_1).toNatClampNeg) x3 →
∀ τ8 : Mem, τ8 = mup τ7 (1, 0, 0) 1 ((τ7 (1, 0, 0) 1) + 1) →
Q x4_1 τ8
def J_X6_addDitch (x1 : Int32) (x2 : Int32) (x3 : Int32) (σ : Mem) (Q : Int32 → Mem → Prop) : Prop :=
J_X6_isDitch x1 σ (fun r1 τ1 =>
((¬ r1 = 0 →
  J_X6_isGate x2 x3 τ1 (fun r3 τ3 =>
  ((¬ r3 = 0 →
    ((¬ (τ3 (1, 0, 0) 1) = 10 →
      J_X6_addsDitch x1 x2 x3 τ3 (fun r6 τ6 =>
      Q r6 τ6)) ∧
    ((τ3 (1, 0, 0) 1) = 10 →
      Q (-104) τ3))) ∧
  (r3 = 0 →
    Q (-102) τ3)))) ∧
(r1 = 0 →
  Q (-101) τ1)))
def J_X6_addsUser (x1 : Int32) (x2 : Int32) (x3 : Int32) (σ : Mem) (Q : Int32 → Mem → Prop) : Prop :=
∀ x4_1 : Int32, x4_1 = σ (1, 0, 0) 2 →
∀ x5_2 : Int32, x5_2 = 70 + x4_1 →
∃ (I15 : Int32 → Mem → Prop) (μ15 : Int32 → Mem → Nat), I15 x5_2 σ ∧ ∀ (x5_3 : Int32) (τ3 : Mem), I15 x5_3 τ3 →
  ((214 ≤ x5_3 →
    vp_in (70 + x4_1) 214 ∧
    ∀ τ6 : Mem, τ6 = mup τ3 (1, 0, 0) ((70 + x4_1).toNatClampNeg) x1 →
    vp_in (82 + x4_1) 214 ∧
    ∀ τ8 : Mem, τ8 = mup τ6 (1, 0, 0) ((82 + x4_1).toNatClampNeg) x2 →
    vp_in (94 + x4_1) 214 ∧
    ∀ τ10 : Mem, τ10 = mup τ8 (1, 0, 0) ((94 + x4_1).toNatClampNeg) x3 →
    ∀ τ11 : Mem, τ11 = mup τ10 (1, 0, 0) 2 ((τ10 (1, 0, 0) 2) + 1) →
    Q x4_1 τ11) ∧
  (¬ 214 ≤ x5_3 →
    vp_in x5_3 214 ∧
    ∀ τ13 : Mem, τ13 = mup τ3 (1, 0, 0) x5_3.toNatClampNeg 0 →
    ∀ x5_14 : Int32, x5_14 = x5_3 + 12 →
    I15 x5_14 τ13 ∧ μ15 x5_14 τ13 < μ15 x5_3 τ3))
def J_X6_addUser (x1 : Int32) (x2 : Int32) (x3 : Int32) (σ : Mem) (Q : Int32 → Mem → Prop) : Prop :=
J_X6_isDitch x1 σ (fun r1 τ1 =>
((¬ r1 = 0 →
  J_X6_in x2 1800 2099 τ1 (fun r3 τ3 =>
  ((r3 = 0 →
    Q (-102) τ3) ∧
  (¬ r3 = 0 →
    J_X6_in x3 0 60 τ3 (fun r5 τ5 =>
    ((¬ r5 = 0 →
      ((¬ (τ5 (1, 0, 0) 2) = 12 →
        J_X6_addsUser x1 x2 x3 τ5 (fun r8 τ8 =>
        Q r8 τ8)) ∧
      ((τ5 (1, 0, 0) 2) = 12 →
        Q (-104) τ5))) ∧
    (r5 = 0 →
      Q (-102) τ5))))))) ∧
(r1 = 0 →
  Q (-101) τ1)))
def J_X6_turnNow (σ : Mem) (Q : Int32 → Mem → Prop) : Prop :=
∃ (I4 : Int32 → Int32 → Prop) (μ4 : Int32 → Int32 → Nat), I4 0 0 ∧ ∀ (x1_1 : Int32) (x2_1 : Int32), I4 x1_1 x2_1 →
  (((σ (1, 0, 0) 2) ≤ x2_1 →
    ((¬ (σ (1, 0, 0) 3) = 1 →
      Q (-1) σ) ∧
    ((σ (1, 0, 0) 3) = 1 →
      ((¬ x1_1 = 0 →
        (¬ x1_1 = 0) ∧
        ∀ x2_6 : Int32, x2_6 = (σ (1, 0, 0) 0) - (σ (1, 0, 0) 0) / x1_1 * x1_1 →
        ∃ (I60 : Int32 → Int32 → Prop) (μ60 : Int32 → Int32 → Nat), I60 x2_6 0 ∧ ∀ (x2_7 : Int32) (x3_7 : Int32), I60 x2_7 x3_7 →
          vp_in (178 + x3_7) 214 ∧
          ((x2_7 < (σ (1, 0, 0) ((178 + x3_7).toNatClampNeg)) →
            Q x3_7 σ) ∧
          (¬ x2_7 < (σ (1, 0, 0) ((178 + x3_7).toNatClampNeg)) →
            vp_in (178 + x3_7) 214 ∧
            ∀ x2_11 : Int32, x2_11 = x2_7 - (σ (1, 0, 0) ((178 + x3_7).toNatClampNeg)) →
            ∀ x3_12 : Int32, x3_12 = x3_7 + 1 →
            I60 x2_11 x3_12 ∧ μ60 x2_11 x3_12 < μ60 x2_7 x3_7))) ∧
      (x1_1 = 0 →
        Q (-1) σ))))) ∧
  (¬ (σ (1, 0, 0) 2) ≤ x2_1 →
    vp_in (178 + x2_1) 214 ∧
    ∀ x1_14 : Int32, x1_14 = x1_1 + (σ (1, 0, 0) ((178 + x2_1).toNatClampNeg)) →
    ∀ x2_15 : Int32, x2_15 = x2_1 + 1 →
    I4 x1_14 x2_15 ∧ μ4 x1_14 x2_15 < μ4 x1_1 x2_1))
def J_X6_hour (σ : Mem) (Q : Int32 → Mem → Prop) : Prop :=
Q ((σ (1, 0, 0) 0) - (σ (1, 0, 0) 0) / 24 * 24) σ
def J_X6_need (x1 : Int32) (σ : Mem) (Q : Int32 → Mem → Prop) : Prop :=
J_X6_hour  σ (fun r1 τ1 =>
vp_in (118 + x1) 214 ∧
vp_in (130 + x1) 214 ∧
J_X6_in r1 (τ1 (1, 0, 0) ((118 + x1).toNatClampNeg)) ((τ1 (1, 0, 0) ((130 + x1).toNatClampNeg)) - 1) τ1 (fun r4 τ4 =>
((r4 = 0 →
  Q 0 τ4) ∧
(¬ r4 = 0 →
  vp_in (106 + x1) 214 ∧
  Q (τ4 (1, 0, 0) ((106 + x1).toNatClampNeg)) τ4))))
def J_X6_least (x0 : Int32) (x1 : Int32) (σ : Mem) (Q : Int32 → Mem → Prop) : Prop :=
((x1 ≤ x0 →
  Q x1 σ) ∧
(¬ x1 ≤ x0 →
  Q x0 σ))
def J_X6_findAsked (σ : Mem) (Q : Mem → Prop) : Prop :=
J_X6_turnNow  σ (fun r1 τ1 =>
∃ (I7 : Int32 → Mem → Prop) (μ7 : Int32 → Mem → Nat), I7 0 τ1 ∧ ∀ (x2_2 : Int32) (τ2 : Mem), I7 x2_2 τ2 →
  (((τ2 (1, 0, 0) 2) ≤ x2_2 →
    Q τ2) ∧
  (¬ (τ2 (1, 0, 0) 2) ≤ x2_2 →
    J_X6_need x2_2 τ2 (fun r4 τ4 =>
    vp_in (142 + x2_2) 214 ∧
    vp_in (154 + x2_2) 214 ∧
    ∀ x3_7 : Int32, x3_7 = (r4 + (τ4 (1, 0, 0) ((142 + x2_2).toNatClampNeg))) - (τ4 (1, 0, 0) ((154 + x2_2).toNatClampNeg)) →
    vp_in (202 + x2_2) 214 ∧
    ((¬ (τ4 (1, 0, 0) ((202 + x2_2).toNatClampNeg)) = 1 →
      ((¬ x2_2 = r1 →
        vp_in (94 + x2_2) 214 ∧
        J_X6_least x3_7 (τ4 (1, 0, 0) ((94 + x2_2).toNatClampNeg)) τ4 (fun r12 τ12 =>
        vp_in x2_2 12 ∧
        ∀ τ14 : Mem, τ14 = mup τ12 (6, 0, 0) x2_2.toNatClampNeg r12 →
        ∀ x2_15 : Int32, x2_15 = x2_2 + 1 →
        I7 x2_15 τ14 ∧ μ7 x2_15 τ14 < μ7 x2_2 τ2)) ∧
      (x2_2 = r1 →
        vp_in x2_2 12 ∧
        ∀ τ17 : Mem, τ17 = mup τ4 (6, 0, 0) x2_2.toNatClampNeg x3_7 →
        ∀ x2_18 : Int32, x2_18 = x2_2 + 1 →
        I7 x2_18 τ17 ∧ μ7 x2_18 τ17 < μ7 x2_2 τ2))) ∧
    ((τ4 (1, 0, 0) ((202 + x2_2).toNatClampNeg)) = 1 →
      vp_in x2_2 12 ∧
      ∀ τ20 : Mem, τ20 = mup τ4 (6, 0, 0) x2_2.toNatClampNeg 0 →
      ∀ x2_21 : Int32, x2_21 = x2_2 + 1 →
      I7 x2_21 τ20 ∧ μ7 x2_21 τ20 < μ7 x2_2 τ2))))))
def J_X6_isPossible_b142  (K4 : Int32 → Mem → Prop) (K29 : Int32 → Mem → Prop) (K77 : Int32 → Int32 → Mem → Prop) (b2 : Int32) (t0 : Int32) (τ : Mem) (Q : Int32 → Mem → Prop) : Prop :=
((b2 ≤ 0 →
  ∀ x2_20 : Int32, x2_20 = b2 + (-1) →
  K77 t0 x2_20 τ) ∧
(¬ b2 ≤ 0 →
  vp_in (40 + b2) 214 ∧
  vp_in (τ (1, 0, 0) ((40 + b2).toNatClampNeg)) 10 ∧
  vp_in b2 10 ∧
  vp_in (τ (1, 0, 0) ((40 + b2).toNatClampNeg)) 10 ∧
  ∀ τ25 : Mem, τ25 = mup τ (9, 0, 0) ((τ (1, 0, 0) ((40 + b2).toNatClampNeg)).toNatClampNeg) ((τ (9, 0, 0) ((τ (1, 0, 0) ((40 + b2).toNatClampNeg)).toNatClampNeg)) + (τ (8, 0, 0) b2.toNatClampNeg)) →
  ∀ x2_26 : Int32, x2_26 = b2 + (-1) →
  K77 t0 x2_26 τ25))
def J_X6_isPossible (σ : Mem) (Q : Int32 → Mem → Prop) : Prop :=
∃ (I4 : Int32 → Mem → Prop) (μ4 : Int32 → Mem → Nat), I4 0 σ ∧ ∀ (x2_1 : Int32) (τ1 : Mem), I4 x2_1 τ1 →
  (((τ1 (1, 0, 0) 1) ≤ x2_1 →
    ∃ (I29 : Int32 → Mem → Prop) (μ29 : Int32 → Mem → Nat), I29 0 τ1 ∧ ∀ (x2_3 : Int32) (τ3 : Mem), I29 x2_3 τ3 →
      (((τ3 (1, 0, 0) 2) ≤ x2_3 →
        ∀ x2_5 : Int32, x2_5 = (τ3 (1, 0, 0) 1) - 1 →
        ∃ (I77 : Int32 → Int32 → Mem → Prop) (μ77 : Int32 → Int32 → Mem → Nat), I77 1 x2_5 τ3 ∧ ∀ (x1_6 : Int32) (x2_6 : Int32) (τ6 : Mem), I77 x1_6 x2_6 τ6 →
          ((x2_6 < 0 →
            ((x1_6 = 0 →
              Q 0 τ6) ∧
            (¬ x1_6 = 0 →
              J_X6_hour  τ6 (fun r9 τ9 =>
              vp_in (12 + r9) 214 ∧
              (((τ9 (1, 0, 0) ((12 + r9).toNatClampNeg)) < (τ6 (8, 0, 0) 0) →
                Q 0 τ9) ∧
              (¬ (τ9 (1, 0, 0) ((12 + r9).toNatClampNeg)) < (τ6 (8, 0, 0) 0) →
                Q 1 τ9)))))) ∧
          (¬ x2_6 < 0 →
            vp_in (60 + x2_6) 214 ∧
            ∀ x3_13 : Int32, x3_13 = 100 - (τ6 (1, 0, 0) ((60 + x2_6).toNatClampNeg)) →
            vp_in x2_6 10 ∧
            (¬ x3_13 = 0) ∧
            vp_in x2_6 10 ∧
            ∀ τ17 : Mem, τ17 = mup τ6 (8, 0, 0) x2_6.toNatClampNeg ((((100 * (τ6 (9, 0, 0) x2_6.toNatClampNeg)) + x3_13) - 1) / x3_13) →
            ((x1_6 = 0 →
              J_X6_isPossible_b142 (fun z0 z1 => I4 z0 z1 ∧ μ4 z0 z1 < μ4 x2_1 τ1) (fun z0 z1 => I29 z0 z1 ∧ μ29 z0 z1 < μ29 x2_3 τ3) (fun z0 z1 z2 => I77 z0 z1 z2 ∧ μ77 z0 z1 z2 < μ77 x1_6 x2_6 τ6) x2_6 0 τ17 Q) ∧
            (¬ x1_6 = 0 →
              vp_in x2_6 10 ∧
              vp_in (50 + x2_6) 214 ∧
              (((τ17 (1, 0, 0) ((50 + x2_6).toNatClampNeg)) < (τ17 (8, 0, 0) x2_6.toNatClampNeg) →
                J_X6_isPossible_b142 (fun z0 z1 => I4 z0 z1 ∧ μ4 z0 z1 < μ4 x2_1 τ1) (fun z0 z1 => I29 z0 z1 ∧ μ29 z0 z1 < μ29 x2_3 τ3) (fun z0 z1 z2 => I77 z0 z1 z2 ∧ μ77 z0 z1 z2 < μ77 x1_6 x2_6 τ6) x2_6 0 τ17 Q) ∧
              (¬ (τ17 (1, 0, 0) ((50 + x2_6).toNatClampNeg)) < (τ17 (8, 0, 0) x2_6.toNatClampNeg) →
                J_X6_isPossible_b142 (fun z0 z1 => I4 z0 z1 ∧ μ4 z0 z1 < μ4 x2_1 τ1) (fun z0 z1 => I29 z0 z1 ∧ μ29 z0 z1 < μ29 x2_3 τ3) (fun z0 z1 z2 => I77 z0 z1 z2 ∧ μ77 z0 z1 z2 < μ77 x1_6 x2_6 τ6) x2_6 1 τ17 Q))))))) ∧
      (¬ (τ3 (1, 0, 0) 2) ≤ x2_3 →
        vp_in (70 + x2_3) 214 ∧
        vp_in (τ3 (1, 0, 0) ((70 + x2_3).toNatClampNeg)) 10 ∧
        vp_in x2_3 12 ∧
        vp_in (τ3 (1, 0, 0) ((70 + x2_3).toNatClampNeg)) 10 ∧
        ∀ τ34 : Mem, τ34 = mup τ3 (9, 0, 0) ((τ3 (1, 0, 0) ((70 + x2_3).toNatClampNeg)).toNatClampNeg) ((τ3 (9, 0, 0) ((τ3 (1, 0, 0) ((70 + x2_3).toNatClampNeg)).toNatClampNeg)) + (τ3 (7, 0, 0) x2_3.toNatClampNeg)) →
        ∀ x2_35 : Int32, x2_35 = x2_3 + 1 →
        I29 x2_35 τ34 ∧ μ29 x2_35 τ34 < μ29 x2_3 τ3))) ∧
  (¬ (τ1 (1, 0, 0) 1) ≤ x2_1 →
    vp_in x2_1 10 ∧
    ∀ τ37 : Mem, τ37 = mup τ1 (9, 0, 0) x2_1.toNatClampNeg 0 →
    ∀ x2_38 : Int32, x2_38 = x2_1 + 1 →
    I4 x2_38 τ37 ∧ μ4 x2_38 τ37 < μ4 x2_1 τ1))
def J_X6_proportions (σ : Mem) (Q : Mem → Prop) : Prop :=
∃ (I5 : Int32 → Int32 → Mem → Prop) (μ5 : Int32 → Int32 → Mem → Nat), I5 100 0 σ ∧ ∀ (x1_1 : Int32) (x2_1 : Int32) (τ1 : Mem), I5 x1_1 x2_1 τ1 →
  ((¬ x2_1 = 0 →
    Q τ1) ∧
  (x2_1 = 0 →
    ∃ (I11 : Int32 → Mem → Prop) (μ11 : Int32 → Mem → Nat), I11 0 τ1 ∧ ∀ (x3_3 : Int32) (τ3 : Mem), I11 x3_3 τ3 →
      (((τ3 (1, 0, 0) 2) ≤ x3_3 →
        J_X6_isPossible  τ3 (fun r5 τ5 =>
        ∀ x1_6 : Int32, x1_6 = x1_1 + (-1) →
        I5 x1_6 r5 τ5 ∧ μ5 x1_6 r5 τ5 < μ5 x1_1 x2_1 τ1)) ∧
      (¬ (τ3 (1, 0, 0) 2) ≤ x3_3 →
        vp_in x3_3 12 ∧
        vp_in x3_3 12 ∧
        ∀ τ9 : Mem, τ9 = mup τ3 (7, 0, 0) x3_3.toNatClampNeg (((τ3 (6, 0, 0) x3_3.toNatClampNeg) * x1_1) / 100) →
        ∀ x3_10 : Int32, x3_10 = x3_3 + 1 →
        I11 x3_10 τ9 ∧ μ11 x3_10 τ9 < μ11 x3_3 τ3))))
def J_X6_serves_b32 (x1 : Int32)  (b1 : Int32) (b2 : Int32) (t0 : Int32) (t1 : Int32) (τ : Mem) (Q : Mem → Prop) : Prop :=
vp_in t1 12 ∧
∀ τ6 : Mem, τ6 = mup τ (7, 0, 0) t1.toNatClampNeg t0 →
∃ (I33 : Mem → Prop) (μ33 : Mem → Nat), I33 τ6 ∧ ∀ (τ7 : Mem), I33 τ7 →
  vp_in b1 12 ∧
  (((τ7 (7, 0, 0) b1.toNatClampNeg) ≤ b2 →
    Q τ7) ∧
  (¬ (τ7 (7, 0, 0) b1.toNatClampNeg) ≤ b2 →
    J_X6_isPossible  τ7 (fun r10 τ10 =>
    ((¬ r10 = 0 →
      Q τ10) ∧
    (r10 = 0 →
      vp_in b1 12 ∧
      vp_in b1 12 ∧
      ∀ τ14 : Mem, τ14 = mup τ10 (7, 0, 0) b1.toNatClampNeg ((τ10 (7, 0, 0) b1.toNatClampNeg) - 1) →
      I33 τ14 ∧ μ33 τ14 < μ33 τ7)))))
def J_X6_serves (x1 : Int32) (σ : Mem) (Q : Mem → Prop) : Prop :=
vp_in x1 12 ∧
∀ x2_2 : Int32, x2_2 = σ (7, 0, 0) x1.toNatClampNeg →
vp_in x1 12 ∧
(((σ (6, 0, 0) x1.toNatClampNeg) ≤ x2_2 →
  J_X6_serves_b32 x1 x1 x2_2 x2_2 x1 σ Q) ∧
(¬ (σ (6, 0, 0) x1.toNatClampNeg) ≤ x2_2 →
  vp_in x1 12 ∧
  J_X6_serves_b32 x1 x1 x2_2 (σ (6, 0, 0) x1.toNatClampNeg) x1 σ Q))
def J_X6_isOlder (x1 : Int32) (x2 : Int32) (σ : Mem) (Q : Int32 → Mem → Prop) : Prop :=
vp_in (82 + x1) 214 ∧
vp_in (82 + x2) 214 ∧
(((σ (1, 0, 0) ((82 + x1).toNatClampNeg)) < (σ (1, 0, 0) ((82 + x2).toNatClampNeg)) →
  Q 1 σ) ∧
(¬ (σ (1, 0, 0) ((82 + x1).toNatClampNeg)) < (σ (1, 0, 0) ((82 + x2).toNatClampNeg)) →
  vp_in (82 + x1) 214 ∧
  vp_in (82 + x2) 214 ∧
  ((¬ (σ (1, 0, 0) ((82 + x1).toNatClampNeg)) = (σ (1, 0, 0) ((82 + x2).toNatClampNeg)) →
    Q 0 σ) ∧
  ((σ (1, 0, 0) ((82 + x1).toNatClampNeg)) = (σ (1, 0, 0) ((82 + x2).toNatClampNeg)) →
    ((x2 ≤ x1 →
      Q 0 σ) ∧
    (¬ x2 ≤ x1 →
      Q 1 σ))))))
def J_X6_ranked (x1 : Int32) (σ : Mem) (Q : Int32 → Mem → Prop) : Prop :=
∃ (I2 : Int32 → Mem → Prop) (μ2 : Int32 → Mem → Nat), I2 0 σ ∧ ∀ (x2_1 : Int32) (τ1 : Mem), I2 x2_1 τ1 →
  (((τ1 (1, 0, 0) 2) ≤ x2_1 →
    Q (-101) τ1) ∧
  (¬ (τ1 (1, 0, 0) 2) ≤ x2_1 →
    ∃ (I17 : Int32 → Int32 → Mem → Prop) (μ17 : Int32 → Int32 → Mem → Nat), I17 0 0 τ1 ∧ ∀ (x3_3 : Int32) (x4_3 : Int32) (τ3 : Mem), I17 x3_3 x4_3 τ3 →
      (((τ3 (1, 0, 0) 2) ≤ x4_3 →
        ((¬ x3_3 = x1 →
          ∀ x2_6 : Int32, x2_6 = x2_1 + 1 →
          I2 x2_6 τ3 ∧ μ2 x2_6 τ3 < μ2 x2_1 τ1) ∧
        (x3_3 = x1 →
          Q x2_1 τ3))) ∧
      (¬ (τ3 (1, 0, 0) 2) ≤ x4_3 →
        J_X6_isOlder x4_3 x2_1 τ3 (fun r7 τ7 =>
        ((r7 = 0 →
          ∀ x3_9 : Int32, x3_9 = x3_3 + 0 →
          ∀ x4_10 : Int32, x4_10 = x4_3 + 1 →
          I17 x3_9 x4_10 τ7 ∧ μ17 x3_9 x4_10 τ7 < μ17 x3_3 x4_3 τ3) ∧
        (¬ r7 = 0 →
          ∀ x3_11 : Int32, x3_11 = x3_3 + 1 →
          ∀ x4_12 : Int32, x4_12 = x4_3 + 1 →
          I17 x3_11 x4_12 τ7 ∧ μ17 x3_11 x4_12 τ7 < μ17 x3_3 x4_3 τ3)))))))
def J_X6_distributes_b57   (b1 : Int32) (τ : Mem) (Q : Mem → Prop) : Prop :=
∃ (I59 : Int32 → Mem → Prop) (μ59 : Int32 → Mem → Nat), I59 0 τ ∧ ∀ (x2_7 : Int32) (τ7 : Mem), I59 x2_7 τ7 →
  (((τ7 (1, 0, 0) 2) ≤ x2_7 →
    J_X6_isPossible  τ7 (fun r9 τ9 =>
    Q τ9)) ∧
  (¬ (τ7 (1, 0, 0) 2) ≤ x2_7 →
    J_X6_ranked x2_7 τ7 (fun r10 τ10 =>
    ((r10 = b1 →
      ∀ x2_12 : Int32, x2_12 = x2_7 + 1 →
      I59 x2_12 τ10 ∧ μ59 x2_12 τ10 < μ59 x2_7 τ7) ∧
    (¬ r10 = b1 →
      J_X6_serves r10 τ10 (fun τ13 =>
      ∀ x2_14 : Int32, x2_14 = x2_7 + 1 →
      I59 x2_14 τ13 ∧ μ59 x2_14 τ13 < μ59 x2_7 τ7))))))
def J_X6_distributes_b48   (b1 : Int32) (τ : Mem) (Q : Mem → Prop) : Prop :=
((b1 < 0 →
  J_X6_distributes_b57 b1 τ Q) ∧
(¬ b1 < 0 →
  J_X6_serves b1 τ (fun τ15 =>
  J_X6_distributes_b57 b1 τ15 Q)))
def J_X6_distributes (σ : Mem) (Q : Mem → Prop) : Prop :=
J_X6_findAsked  σ (fun τ1 =>
J_X6_turnNow  τ1 (fun r2 τ2 =>
∃ (I11 : Int32 → Mem → Prop) (μ11 : Int32 → Mem → Nat), I11 0 τ2 ∧ ∀ (x2_3 : Int32) (τ3 : Mem), I11 x2_3 τ3 →
  (((τ3 (1, 0, 0) 2) ≤ x2_3 →
    ((¬ (τ3 (1, 0, 0) 3) = 2 →
      J_X6_distributes_b48 r2 τ3 Q) ∧
    ((τ3 (1, 0, 0) 3) = 2 →
      J_X6_proportions  τ3 (fun τ16 =>
      J_X6_distributes_b48 r2 τ16 Q)))) ∧
  (¬ (τ3 (1, 0, 0) 2) ≤ x2_3 →
    vp_in x2_3 12 ∧
    ∀ τ18 : Mem, τ18 = mup τ3 (7, 0, 0) x2_3.toNatClampNeg 0 →
    ∀ x2_19 : Int32, x2_19 = x2_3 + 1 →
    I11 x2_19 τ18 ∧ μ11 x2_19 τ18 < μ11 x2_3 τ3))))
def J_X6_passes (σ : Mem) (Q : Mem → Prop) : Prop :=
J_X6_distributes  σ (fun τ1 =>
J_X6_hour  τ1 (fun r2 τ2 =>
vp_in (12 + r2) 214 ∧
∀ x1_4 : Int32, x1_4 = τ2 (1, 0, 0) ((12 + r2).toNatClampNeg) →
∀ τ5 : Mem, τ5 = mup τ2 (1, 0, 0) 5 ((τ2 (1, 0, 0) 5) + (τ2 (8, 0, 0) 0)) →
∀ τ6 : Mem, τ6 = mup τ5 (1, 0, 0) 6 ((τ5 (1, 0, 0) 6) + (x1_4 - (τ5 (8, 0, 0) 0))) →
∃ (I52 : Int32 → Mem → Prop) (μ52 : Int32 → Mem → Nat), I52 0 τ6 ∧ ∀ (x2_7 : Int32) (τ7 : Mem), I52 x2_7 τ7 →
  (((τ7 (1, 0, 0) 1) ≤ x2_7 →
    ∃ (I93 : Int32 → Mem → Prop) (μ93 : Int32 → Mem → Nat), I93 0 τ7 ∧ ∀ (x2_9 : Int32) (τ9 : Mem), I93 x2_9 τ9 →
      (((τ9 (1, 0, 0) 2) ≤ x2_9 →
        ∀ τ11 : Mem, τ11 = mup τ9 (1, 0, 0) 0 ((τ9 (1, 0, 0) 0) + 1) →
        Q τ11) ∧
      (¬ (τ9 (1, 0, 0) 2) ≤ x2_9 →
        vp_in x2_9 12 ∧
        vp_in (154 + x2_9) 214 ∧
        ∀ x3_14 : Int32, x3_14 = (τ9 (7, 0, 0) x2_9.toNatClampNeg) + (τ9 (1, 0, 0) ((154 + x2_9).toNatClampNeg)) →
        J_X6_need x2_9 τ9 (fun r15 τ15 =>
        J_X6_least r15 x3_14 τ15 (fun r16 τ16 =>
        vp_in (166 + x2_9) 214 ∧
        J_X6_least (τ16 (1, 0, 0) ((166 + x2_9).toNatClampNeg)) (x3_14 - r16) τ16 (fun r18 τ18 =>
        vp_in (154 + x2_9) 214 ∧
        ∀ τ20 : Mem, τ20 = mup τ18 (1, 0, 0) ((154 + x2_9).toNatClampNeg) ((x3_14 - r16) - r18) →
        vp_in (190 + x2_9) 214 ∧
        vp_in (190 + x2_9) 214 ∧
        ∀ τ23 : Mem, τ23 = mup τ20 (1, 0, 0) ((190 + x2_9).toNatClampNeg) ((τ20 (1, 0, 0) ((190 + x2_9).toNatClampNeg)) + (r15 - r16)) →
        vp_in x2_9 12 ∧
        ∀ τ25 : Mem, τ25 = mup τ23 (1, 0, 0) 8 ((τ23 (1, 0, 0) 8) + (τ23 (7, 0, 0) x2_9.toNatClampNeg)) →
        ∀ τ26 : Mem, τ26 = mup τ25 (1, 0, 0) 9 ((τ25 (1, 0, 0) 9) + r16) →
        ∀ τ27 : Mem, τ27 = mup τ26 (1, 0, 0) 10 ((τ26 (1, 0, 0) 10) + r18) →
        ∀ τ28 : Mem, τ28 = mup τ27 (1, 0, 0) 11 ((τ27 (1, 0, 0) 11) + (r15 - r16)) →
        vp_in (202 + x2_9) 214 ∧
        ∀ τ30 : Mem, τ30 = mup τ28 (1, 0, 0) ((202 + x2_9).toNatClampNeg) 0 →
        ∀ x2_31 : Int32, x2_31 = x2_9 + 1 →
        I93 x2_31 τ30 ∧ μ93 x2_31 τ30 < μ93 x2_9 τ9)))))) ∧
  (¬ (τ7 (1, 0, 0) 1) ≤ x2_7 →
    vp_in x2_7 10 ∧
    vp_in x2_7 10 ∧
    ∀ τ34 : Mem, τ34 = mup τ7 (1, 0, 0) 7 ((τ7 (1, 0, 0) 7) + ((τ7 (8, 0, 0) x2_7.toNatClampNeg) - (τ7 (9, 0, 0) x2_7.toNatClampNeg))) →
    ∀ x2_35 : Int32, x2_35 = x2_7 + 1 →
    I52 x2_35 τ34 ∧ μ52 x2_35 τ34 < μ52 x2_7 τ7))))
def J_X6_advance (x1 : Int32) (σ : Mem) (Q : Int32 → Mem → Prop) : Prop :=
J_X6_in x1 1 48 σ (fun r1 τ1 =>
((¬ r1 = 0 →
  ∀ x2_3 : Int32, x2_3 = τ1 (1, 0, 0) 11 →
  ∃ (I23 : Int32 → Mem → Prop) (μ23 : Int32 → Mem → Nat), I23 0 τ1 ∧ ∀ (x3_4 : Int32) (τ4 : Mem), I23 x3_4 τ4 →
    ((x1 ≤ x3_4 →
      Q ((τ4 (1, 0, 0) 11) - x2_3) τ4) ∧
    (¬ x1 ≤ x3_4 →
      J_X6_passes  τ4 (fun τ6 =>
      ∀ x3_7 : Int32, x3_7 = x3_4 + 1 →
      I23 x3_7 τ6 ∧ μ23 x3_7 τ6 < μ23 x3_4 τ4)))) ∧
(r1 = 0 →
  Q (-102) τ1)))
def J_X6_all (σ : Mem) (Q : Int32 → Mem → Prop) : Prop :=
∃ (I4 : Int32 → Int32 → Prop) (μ4 : Int32 → Int32 → Nat), I4 0 0 ∧ ∀ (x1_1 : Int32) (x2_1 : Int32), I4 x1_1 x2_1 →
  (((σ (1, 0, 0) 2) ≤ x2_1 →
    Q x1_1 σ) ∧
  (¬ (σ (1, 0, 0) 2) ≤ x2_1 →
    vp_in x2_1 12 ∧
    ∀ x1_4 : Int32, x1_4 = x1_1 + (σ (7, 0, 0) x2_1.toNatClampNeg) →
    ∀ x2_5 : Int32, x2_5 = x2_1 + 1 →
    I4 x1_4 x2_5 ∧ μ4 x1_4 x2_5 < μ4 x1_1 x2_1))
def J_X6_append (x1 : Int32) (σ : Mem) (Q : Int32 → Mem → Prop) : Prop :=
J_X6_in x1 0 127 σ (fun r1 τ1 =>
((¬ r1 = 0 →
  ((¬ (τ1 (0, 0, 0) 5) = 100 →
    vp_in (τ1 (0, 0, 0) 5) 100 ∧
    ∀ τ5 : Mem, τ5 = mup τ1 (5, 0, 0) ((τ1 (0, 0, 0) 5).toNatClampNeg) x1 →
    ∀ τ6 : Mem, τ6 = mup τ5 (0, 0, 0) 5 ((τ5 (0, 0, 0) 5) + 1) →
    Q (τ6 (0, 0, 0) 5) τ6) ∧
  ((τ1 (0, 0, 0) 5) = 100 →
    Q (-104) τ1))) ∧
(r1 = 0 →
  Q (-102) τ1)))
def J_X6_isUser (x1 : Int32) (σ : Mem) (Q : Int32 → Mem → Prop) : Prop :=
J_X6_in x1 0 ((σ (1, 0, 0) 2) - 1) σ (fun r1 τ1 =>
isB r1 ∧
Q r1 τ1)
def J_X6_asks (x1 : Int32) (σ : Mem) (Q : Int32 → Mem → Prop) : Prop :=
J_X6_isUser x1 σ (fun r1 τ1 =>
((¬ r1 = 0 →
  J_X6_findAsked  τ1 (fun τ3 =>
  vp_in x1 12 ∧
  Q (τ3 (6, 0, 0) x1.toNatClampNeg) τ3)) ∧
(r1 = 0 →
  Q (-101) τ1)))
def J_X6_brings (σ : Mem) (Q : Mem → Prop) : Prop :=
∃ (I2 : Int32 → Mem → Prop) (μ2 : Int32 → Mem → Nat), I2 0 σ ∧ ∀ (x1_1 : Int32) (τ1 : Mem), I2 x1_1 τ1 →
  ((214 ≤ x1_1 →
    Q τ1) ∧
  (¬ 214 ≤ x1_1 →
    vp_in x1_1 214 ∧
    vp_in x1_1 214 ∧
    ∀ τ5 : Mem, τ5 = mup τ1 (1, 0, 0) x1_1.toNatClampNeg (τ1 (2, 0, 0) x1_1.toNatClampNeg) →
    ∀ x1_6 : Int32, x1_6 = x1_1 + 1 →
    I2 x1_6 τ5 ∧ μ2 x1_6 τ5 < μ2 x1_1 τ1))
def J_X6_more (y0 : Int64) (x2 : Int32) (σ : Mem) (Q : Int64 → Mem → Prop) : Prop :=
Q (((31 : Int64) * y0) + x2.toInt64) σ
def J_X6_turn (σ : Mem) (Q : Int32 → Mem → Prop) : Prop :=
J_X6_turnNow  σ (fun r1 τ1 =>
((0 ≤ r1 →
  Q r1 τ1) ∧
(¬ 0 ≤ r1 →
  Q (-105) τ1)))
def J_X6_checksum (σ : Mem) (Q : Int64 → Mem → Prop) : Prop :=
J_X6_distributes  σ (fun τ1 =>
J_X6_more (53 : Int64) (τ1 (1, 0, 0) 0) τ1 (fun r2 τ2 =>
J_X6_more r2 (τ2 (1, 0, 0) 1) τ2 (fun r3 τ3 =>
J_X6_more r3 (τ3 (1, 0, 0) 2) τ3 (fun r4 τ4 =>
∃ (I37 : Int64 → Int32 → Mem → Prop) (μ37 : Int64 → Int32 → Mem → Nat), I37 r4 0 τ4 ∧ ∀ (y1_5 : Int64) (x3_5 : Int32) (τ5 : Mem), I37 y1_5 x3_5 τ5 →
  (((τ5 (1, 0, 0) 1) ≤ x3_5 →
    ∃ (I82 : Int64 → Int32 → Mem → Prop) (μ82 : Int64 → Int32 → Mem → Nat), I82 y1_5 0 τ5 ∧ ∀ (y1_7 : Int64) (x3_7 : Int32) (τ7 : Mem), I82 y1_7 x3_7 τ7 →
      (((τ7 (1, 0, 0) 2) ≤ x3_7 →
        ∃ (I161 : Int64 → Int32 → Mem → Prop) (μ161 : Int64 → Int32 → Mem → Nat), I161 y1_7 0 τ7 ∧ ∀ (y1_9 : Int64) (x3_9 : Int32) (τ9 : Mem), I161 y1_9 x3_9 τ9 →
          ((7 ≤ x3_9 →
            J_X6_turn  τ9 (fun r11 τ11 =>
            J_X6_more y1_9 r11 τ11 (fun r12 τ12 =>
            Q r12 τ12))) ∧
          (¬ 7 ≤ x3_9 →
            vp_in (5 + x3_9) 214 ∧
            J_X6_more y1_9 (τ9 (1, 0, 0) ((5 + x3_9).toNatClampNeg)) τ9 (fun r14 τ14 =>
            ∀ x3_15 : Int32, x3_15 = x3_9 + 1 →
            I161 r14 x3_15 τ14 ∧ μ161 r14 x3_15 τ14 < μ161 y1_9 x3_9 τ9)))) ∧
      (¬ (τ7 (1, 0, 0) 2) ≤ x3_7 →
        vp_in x3_7 12 ∧
        J_X6_more y1_7 (τ7 (6, 0, 0) x3_7.toNatClampNeg) τ7 (fun r17 τ17 =>
        vp_in x3_7 12 ∧
        J_X6_more r17 (τ17 (7, 0, 0) x3_7.toNatClampNeg) τ17 (fun r19 τ19 =>
        vp_in (154 + x3_7) 214 ∧
        J_X6_more r19 (τ19 (1, 0, 0) ((154 + x3_7).toNatClampNeg)) τ19 (fun r21 τ21 =>
        vp_in (190 + x3_7) 214 ∧
        J_X6_more r21 (τ21 (1, 0, 0) ((190 + x3_7).toNatClampNeg)) τ21 (fun r23 τ23 =>
        vp_in (202 + x3_7) 214 ∧
        J_X6_more r23 (τ23 (1, 0, 0) ((202 + x3_7).toNatClampNeg)) τ23 (fun r25 τ25 =>
        ∀ x3_26 : Int32, x3_26 = x3_7 + 1 →
        I82 r25 x3_26 τ25 ∧ μ82 r25 x3_26 τ25 < μ82 y1_7 x3_7 τ7)))))))) ∧
  (¬ (τ5 (1, 0, 0) 1) ≤ x3_5 →
    vp_in x3_5 10 ∧
    J_X6_more y1_5 (τ5 (8, 0, 0) x3_5.toNatClampNeg) τ5 (fun r28 τ28 =>
    vp_in x3_5 10 ∧
    vp_in x3_5 10 ∧
    J_X6_more r28 ((τ28 (8, 0, 0) x3_5.toNatClampNeg) - (τ28 (9, 0, 0) x3_5.toNatClampNeg)) τ28 (fun r31 τ31 =>
    ∀ x3_32 : Int32, x3_32 = x3_5 + 1 →
    I37 r31 x3_32 τ31 ∧ μ37 r31 x3_32 τ31 < μ37 y1_5 x3_5 τ5))))))))
def J_X6_clearText (σ : Mem) (Q : Int32 → Mem → Prop) : Prop :=
∀ x1_1 : Int32, x1_1 = σ (0, 0, 0) 5 →
∀ τ2 : Mem, τ2 = mup σ (0, 0, 0) 5 0 →
Q x1_1 τ2
def J_X6_puts (x1 : Int32) (x2 : Int32) (σ : Mem) (Q : Int32 → Mem → Prop) : Prop :=
vp_in x1 214 ∧
∀ x3_2 : Int32, x3_2 = σ (1, 0, 0) x1.toNatClampNeg →
vp_in x1 214 ∧
∀ τ4 : Mem, τ4 = mup σ (1, 0, 0) x1.toNatClampNeg x2 →
Q x3_2 τ4
def J_X6_gainOf (x1 : Int32) (x2 : Int32) (σ : Mem) (Q : Int32 → Mem → Prop) : Prop :=
J_X6_distributes  σ (fun τ1 =>
vp_in x1 12 ∧
∀ x3_3 : Int32, x3_3 = τ1 (7, 0, 0) x1.toNatClampNeg →
J_X6_puts (202 + x2) 1 τ1 (fun r4 τ4 =>
J_X6_distributes  τ4 (fun τ5 =>
vp_in (202 + x2) 214 ∧
∀ τ7 : Mem, τ7 = mup τ5 (1, 0, 0) ((202 + x2).toNatClampNeg) r4 →
vp_in x1 12 ∧
Q ((τ7 (7, 0, 0) x1.toNatClampNeg) - x3_3) τ7)))
def J_X6_judged (x1 : Int32) (x2 : Int32) (σ : Mem) (Q : Int32 → Mem → Prop) : Prop :=
J_X6_distributes  σ (fun τ1 =>
vp_in x2 12 ∧
∀ x3_3 : Int32, x3_3 = τ1 (7, 0, 0) x2.toNatClampNeg →
vp_in x1 12 ∧
vp_in x1 12 ∧
(((τ1 (6, 0, 0) x1.toNatClampNeg) ≤ (τ1 (7, 0, 0) x1.toNatClampNeg) →
  Q 0 τ1) ∧
(¬ (τ1 (6, 0, 0) x1.toNatClampNeg) ≤ (τ1 (7, 0, 0) x1.toNatClampNeg) →
  ((¬ x3_3 = 0 →
    J_X6_gainOf x1 x2 τ1 (fun r8 τ8 =>
    (((100 * r8) < ((τ8 (1, 0, 0) 4) * x3_3) →
      Q 1 τ8) ∧
    (¬ (100 * r8) < ((τ8 (1, 0, 0) 4) * x3_3) →
      ((¬ r8 = 0 →
        Q 2 τ8) ∧
      (r8 = 0 →
        Q 1 τ8)))))) ∧
  (x3_3 = 0 →
    Q 0 τ1)))))
def J_X6_complaint (x1 : Int32) (x2 : Int32) (σ : Mem) (Q : Int32 → Mem → Prop) : Prop :=
J_X6_isUser x1 σ (fun r1 τ1 =>
((r1 = 0 →
  Q (-101) τ1) ∧
(¬ r1 = 0 →
  J_X6_isUser x2 τ1 (fun r3 τ3 =>
  ((¬ r3 = 0 →
    J_X6_isOlder x1 x2 τ3 (fun r5 τ5 =>
    ((r5 = 0 →
      Q (-103) τ5) ∧
    (¬ r5 = 0 →
      J_X6_judged x1 x2 τ5 (fun r7 τ7 =>
      Q r7 τ7))))) ∧
  (r3 = 0 →
    Q (-101) τ3))))))
def J_X6_ditches (σ : Mem) (Q : Int32 → Mem → Prop) : Prop :=
Q (σ (1, 0, 0) 1) σ
def J_X6_keeps (σ : Mem) (Q : Mem → Prop) : Prop :=
∃ (I2 : Int32 → Mem → Prop) (μ2 : Int32 → Mem → Nat), I2 0 σ ∧ ∀ (x1_1 : Int32) (τ1 : Mem), I2 x1_1 τ1 →
  ((214 ≤ x1_1 →
    Q τ1) ∧
  (¬ 214 ≤ x1_1 →
    vp_in x1_1 214 ∧
    vp_in x1_1 214 ∧
    ∀ τ5 : Mem, τ5 = mup τ1 (2, 0, 0) x1_1.toNatClampNeg (τ1 (1, 0, 0) x1_1.toNatClampNeg) →
    ∀ x1_6 : Int32, x1_6 = x1_1 + 1 →
    I2 x1_6 τ5 ∧ μ2 x1_6 τ5 < μ2 x1_1 τ1))
def J_X6_here (σ : Mem) (Q : Int32 → Mem → Prop) : Prop :=
(((σ (0, 0, 0) 5) ≤ (σ (0, 0, 0) 10) →
  Q (-1) σ) ∧
(¬ (σ (0, 0, 0) 5) ≤ (σ (0, 0, 0) 10) →
  vp_in (σ (0, 0, 0) 10) 100 ∧
  Q (σ (5, 0, 0) ((σ (0, 0, 0) 10).toNatClampNeg)) σ))
def J_X6_number_b110 (x1 : Int32) (x2 : Int32) (x3 : Int32)  (b1 : Int32) (b4 : Int32) (b5 : Int32) (t0 : Int32) (τ : Mem) (Q : Int32 → Mem → Prop) : Prop :=
((t0 = 0 →
  ∀ τ8 : Mem, τ8 = mup τ (0, 0, 0) 10 b4 →
  vp_in b1 3 ∧
  ∀ τ10 : Mem, τ10 = mup τ8 (10, 0, 0) b1.toNatClampNeg b5 →
  isB t0 ∧
  Q t0 τ10) ∧
(¬ t0 = 0 →
  ∀ τ12 : Mem, τ12 = mup τ (0, 0, 0) 10 (τ (0, 0, 0) 10) →
  vp_in b1 3 ∧
  ∀ τ14 : Mem, τ14 = mup τ12 (10, 0, 0) b1.toNatClampNeg b5 →
  isB t0 ∧
  Q t0 τ14))
def J_X6_number_b95 (x1 : Int32) (x2 : Int32) (x3 : Int32)  (b1 : Int32) (b2 : Int32) (b3 : Int32) (b4 : Int32) (b5 : Int32) (τ : Mem) (Q : Int32 → Mem → Prop) : Prop :=
J_X6_in b5 b2 b3 τ (fun r18 τ18 =>
((r18 = 0 →
  J_X6_number_b110 x1 x2 x3 b1 b4 b5 0 τ18 Q) ∧
(¬ r18 = 0 →
  J_X6_number_b110 x1 x2 x3 b1 b4 b5 1 τ18 Q)))
def J_X6_number (x1 : Int32) (x2 : Int32) (x3 : Int32) (σ : Mem) (Q : Int32 → Mem → Prop) : Prop :=
∀ x4_1 : Int32, x4_1 = σ (0, 0, 0) 10 →
∃ (I9 : Int32 → Mem → Prop) (μ9 : Int32 → Mem → Nat), I9 0 σ ∧ ∀ (x5_2 : Int32) (τ2 : Mem), I9 x5_2 τ2 →
  J_X6_here  τ2 (fun r3 τ3 =>
  J_X6_in r3 48 57 τ3 (fun r4 τ4 =>
  ((r4 = 0 →
    (((τ4 (0, 0, 0) 10) ≤ x4_1 →
      J_X6_number_b110 x1 x2 x3 x1 x4_1 x5_2 0 τ4 Q) ∧
    (¬ (τ4 (0, 0, 0) 10) ≤ x4_1 →
      vp_in x4_1 100 ∧
      ((¬ (τ4 (5, 0, 0) x4_1.toNatClampNeg) = 48 →
        J_X6_number_b95 x1 x2 x3 x1 x2 x3 x4_1 x5_2 τ4 Q) ∧
      ((τ4 (5, 0, 0) x4_1.toNatClampNeg) = 48 →
        ((¬ (τ4 (0, 0, 0) 10) = (x4_1 + 1) →
          J_X6_number_b110 x1 x2 x3 x1 x4_1 x5_2 0 τ4 Q) ∧
        ((τ4 (0, 0, 0) 10) = (x4_1 + 1) →
          J_X6_number_b95 x1 x2 x3 x1 x2 x3 x4_1 x5_2 τ4 Q))))))) ∧
  (¬ r4 = 0 →
    ((100000 ≤ x5_2 →
      ∀ τ22 : Mem, τ22 = mup τ4 (0, 0, 0) 10 ((τ4 (0, 0, 0) 10) + 1) →
      I9 x5_2 τ22 ∧ μ9 x5_2 τ22 < μ9 x5_2 τ2) ∧
    (¬ 100000 ≤ x5_2 →
      J_X6_here  τ4 (fun r23 τ23 =>
      ∀ x5_24 : Int32, x5_24 = ((10 * x5_2) + r23) - 48 →
      ∀ τ25 : Mem, τ25 = mup τ23 (0, 0, 0) 10 ((τ23 (0, 0, 0) 10) + 1) →
      I9 x5_24 τ25 ∧ μ9 x5_24 τ25 < μ9 x5_2 τ2)))))))
def J_X6_takes_b13 (x1 : Int32)  (t0 : Int32) (τ : Mem) (Q : Int32 → Mem → Prop) : Prop :=
((t0 = 0 →
  ∀ τ4 : Mem, τ4 = mup τ (0, 0, 0) 10 ((τ (0, 0, 0) 10) + 0) →
  isB t0 ∧
  Q t0 τ4) ∧
(¬ t0 = 0 →
  ∀ τ6 : Mem, τ6 = mup τ (0, 0, 0) 10 ((τ (0, 0, 0) 10) + 1) →
  isB t0 ∧
  Q t0 τ6))
def J_X6_takes (x1 : Int32) (σ : Mem) (Q : Int32 → Mem → Prop) : Prop :=
J_X6_here  σ (fun r1 τ1 =>
((¬ r1 = x1 →
  J_X6_takes_b13 x1 0 τ1 Q) ∧
(r1 = x1 →
  J_X6_takes_b13 x1 1 τ1 Q)))
def J_X6_isDitchOrder_b43   (t0 : Int32) (τ : Mem) (Q : Int32 → Mem → Prop) : Prop :=
((t0 = 0 →
  Q 0 τ) ∧
(¬ t0 = 0 →
  J_X6_takes 46 τ (fun r4 τ4 =>
  ((r4 = 0 →
    Q 0 τ4) ∧
  (¬ r4 = 0 →
    J_X6_number 2 0 50 τ4 (fun r6 τ6 =>
    ((r6 = 0 →
      Q 0 τ6) ∧
    (¬ r6 = 0 →
      J_X6_takes 59 τ6 (fun r8 τ8 =>
      ((r8 = 0 →
        Q 0 τ8) ∧
      (¬ r8 = 0 →
        Q 1 τ8)))))))))))
def J_X6_isDitchOrder (σ : Mem) (Q : Int32 → Mem → Prop) : Prop :=
J_X6_number 0 0 ((σ (1, 0, 0) 1) - 1) σ (fun r1 τ1 =>
((r1 = 0 →
  J_X6_isDitchOrder_b43 0 τ1 Q) ∧
(¬ r1 = 0 →
  J_X6_takes 46 τ1 (fun r10 τ10 =>
  ((r10 = 0 →
    J_X6_isDitchOrder_b43 0 τ10 Q) ∧
  (¬ r10 = 0 →
    J_X6_number 1 1 200 τ10 (fun r12 τ12 =>
    ((r12 = 0 →
      J_X6_isDitchOrder_b43 0 τ12 Q) ∧
    (¬ r12 = 0 →
      J_X6_isDitchOrder_b43 1 τ12 Q)))))))))
def J_X6_isUserOrder_b45   (t0 : Int32) (τ : Mem) (Q : Int32 → Mem → Prop) : Prop :=
((t0 = 0 →
  Q 0 τ) ∧
(¬ t0 = 0 →
  J_X6_takes 46 τ (fun r4 τ4 =>
  ((r4 = 0 →
    Q 0 τ4) ∧
  (¬ r4 = 0 →
    J_X6_number 2 0 60 τ4 (fun r6 τ6 =>
    ((r6 = 0 →
      Q 0 τ6) ∧
    (¬ r6 = 0 →
      J_X6_takes 59 τ6 (fun r8 τ8 =>
      ((r8 = 0 →
        Q 0 τ8) ∧
      (¬ r8 = 0 →
        Q 1 τ8)))))))))))
def J_X6_isUserOrder (σ : Mem) (Q : Int32 → Mem → Prop) : Prop :=
J_X6_number 0 0 ((σ (1, 0, 0) 1) - 1) σ (fun r1 τ1 =>
((r1 = 0 →
  J_X6_isUserOrder_b45 0 τ1 Q) ∧
(¬ r1 = 0 →
  J_X6_takes 46 τ1 (fun r10 τ10 =>
  ((r10 = 0 →
    J_X6_isUserOrder_b45 0 τ10 Q) ∧
  (¬ r10 = 0 →
    J_X6_number 1 1800 2099 τ10 (fun r12 τ12 =>
    ((r12 = 0 →
      J_X6_isUserOrder_b45 0 τ12 Q) ∧
    (¬ r12 = 0 →
      J_X6_isUserOrder_b45 1 τ12 Q)))))))))
def J_X6_isSupplyOrder_b43   (t0 : Int32) (τ : Mem) (Q : Int32 → Mem → Prop) : Prop :=
((t0 = 0 →
  Q 0 τ) ∧
(¬ t0 = 0 →
  J_X6_takes 46 τ (fun r4 τ4 =>
  ((r4 = 0 →
    Q 0 τ4) ∧
  (¬ r4 = 0 →
    J_X6_number 2 0 200 τ4 (fun r6 τ6 =>
    ((r6 = 0 →
      Q 0 τ6) ∧
    (¬ r6 = 0 →
      J_X6_takes 59 τ6 (fun r8 τ8 =>
      ((r8 = 0 →
        Q 0 τ8) ∧
      (¬ r8 = 0 →
        Q 1 τ8)))))))))))
def J_X6_isSupplyOrder (σ : Mem) (Q : Int32 → Mem → Prop) : Prop :=
J_X6_number 0 0 23 σ (fun r1 τ1 =>
((r1 = 0 →
  J_X6_isSupplyOrder_b43 0 τ1 Q) ∧
(¬ r1 = 0 →
  J_X6_takes 45 τ1 (fun r10 τ10 =>
  ((r10 = 0 →
    J_X6_isSupplyOrder_b43 0 τ10 Q) ∧
  (¬ r10 = 0 →
    J_X6_number 1 ((τ10 (10, 0, 0) 0) + 1) 24 τ10 (fun r12 τ12 =>
    ((r12 = 0 →
      J_X6_isSupplyOrder_b43 0 τ12 Q) ∧
    (¬ r12 = 0 →
      J_X6_isSupplyOrder_b43 1 τ12 Q)))))))))
def J_X6_supplies (x1 : Int32) (x2 : Int32) (x3 : Int32) (σ : Mem) (Q : Int32 → Mem → Prop) : Prop :=
vp_in (12 + x1) 214 ∧
∀ x4_2 : Int32, x4_2 = σ (1, 0, 0) ((12 + x1).toNatClampNeg) →
∃ (I14 : Int32 → Mem → Prop) (μ14 : Int32 → Mem → Nat), I14 x1 σ ∧ ∀ (x5_3 : Int32) (τ3 : Mem), I14 x5_3 τ3 →
  ((x2 ≤ x5_3 →
    Q x4_2 τ3) ∧
  (¬ x2 ≤ x5_3 →
    vp_in (12 + x5_3) 214 ∧
    ∀ τ6 : Mem, τ6 = mup τ3 (1, 0, 0) ((12 + x5_3).toNatClampNeg) x3 →
    ∀ x5_7 : Int32, x5_7 = x5_3 + 1 →
    I14 x5_7 τ6 ∧ μ14 x5_7 τ6 < μ14 x5_3 τ3))
def J_X6_isOrder_b236   (t0 : Int32) (τ : Mem) (Q : Int32 → Mem → Prop) : Prop :=
((t0 = 0 →
  isB t0 ∧
  Q t0 τ) ∧
(¬ t0 = 0 →
  J_X6_puts (178 + (τ (10, 0, 0) 0)) (τ (10, 0, 0) 1) τ (fun r19 τ19 =>
  isB t0 ∧
  Q t0 τ19)))
def J_X6_isOrder_b72   (b1 : Int32) (t0 : Int32) (τ : Mem) (Q : Int32 → Mem → Prop) : Prop :=
((¬ t0 = 0 →
  ∀ τ6 : Mem, τ6 = mup τ (0, 0, 0) 10 ((τ (0, 0, 0) 10) + 1) →
  ((¬ b1 = 100 →
    ((¬ b1 = 117 →
      ((¬ b1 = 116 →
        J_X6_isSupplyOrder  τ6 (fun r10 τ10 =>
        ((r10 = 0 →
          isB r10 ∧
          Q r10 τ10) ∧
        (¬ r10 = 0 →
          J_X6_supplies (τ10 (10, 0, 0) 0) (τ10 (10, 0, 0) 1) (τ10 (10, 0, 0) 2) τ10 (fun r13 τ13 =>
          isB r10 ∧
          Q r10 τ13))))) ∧
      (b1 = 116 →
        J_X6_number 0 0 ((τ6 (1, 0, 0) 2) - 1) τ6 (fun r15 τ15 =>
        ((r15 = 0 →
          J_X6_isOrder_b236 0 τ15 Q) ∧
        (¬ r15 = 0 →
          J_X6_takes 46 τ15 (fun r21 τ21 =>
          ((r21 = 0 →
            J_X6_isOrder_b236 0 τ21 Q) ∧
          (¬ r21 = 0 →
            J_X6_number 1 0 24 τ21 (fun r23 τ23 =>
            ((r23 = 0 →
              J_X6_isOrder_b236 0 τ23 Q) ∧
            (¬ r23 = 0 →
              J_X6_takes 59 τ23 (fun r25 τ25 =>
              ((r25 = 0 →
                J_X6_isOrder_b236 0 τ25 Q) ∧
              (¬ r25 = 0 →
                J_X6_isOrder_b236 1 τ25 Q))))))))))))))) ∧
    (b1 = 117 →
      J_X6_isUserOrder  τ6 (fun r27 τ27 =>
      ((r27 = 0 →
        isB r27 ∧
        Q r27 τ27) ∧
      (¬ r27 = 0 →
        J_X6_addsUser (τ27 (10, 0, 0) 0) (τ27 (10, 0, 0) 1) (τ27 (10, 0, 0) 2) τ27 (fun r30 τ30 =>
        isB r27 ∧
        Q r27 τ30))))))) ∧
  (b1 = 100 →
    J_X6_isDitchOrder  τ6 (fun r32 τ32 =>
    ((r32 = 0 →
      isB r32 ∧
      Q r32 τ32) ∧
    (¬ r32 = 0 →
      J_X6_addsDitch (τ32 (10, 0, 0) 0) (τ32 (10, 0, 0) 1) (τ32 (10, 0, 0) 2) τ32 (fun r35 τ35 =>
      isB r32 ∧
      Q r32 τ35))))))) ∧
(t0 = 0 →
  Q 0 τ))
def J_X6_isOrder (σ : Mem) (Q : Int32 → Mem → Prop) : Prop :=
J_X6_here  σ (fun r1 τ1 =>
((¬ r1 = 100 →
  ((¬ r1 = 117 →
    ((r1 = 116 →
      J_X6_isOrder_b72 r1 1 τ1 Q) ∧
    (¬ r1 = 116 →
      ((¬ r1 = 115 →
        J_X6_isOrder_b72 r1 0 τ1 Q) ∧
      (r1 = 115 →
        J_X6_isOrder_b72 r1 1 τ1 Q))))) ∧
  (r1 = 117 →
    ((12 ≤ (τ1 (1, 0, 0) 2) →
      J_X6_isOrder_b72 r1 0 τ1 Q) ∧
    (¬ 12 ≤ (τ1 (1, 0, 0) 2) →
      J_X6_isOrder_b72 r1 1 τ1 Q))))) ∧
(r1 = 100 →
  ((10 ≤ (τ1 (1, 0, 0) 1) →
    J_X6_isOrder_b72 r1 0 τ1 Q) ∧
  (¬ 10 ≤ (τ1 (1, 0, 0) 1) →
    J_X6_isOrder_b72 r1 1 τ1 Q)))))
def J_X6_reads (σ : Mem) (Q : Int32 → Mem → Prop) : Prop :=
∀ τ1 : Mem, τ1 = mup σ (0, 0, 0) 10 0 →
∃ (I7 : Int32 → Mem → Prop) (μ7 : Int32 → Mem → Nat), I7 0 τ1 ∧ ∀ (x1_2 : Int32) (τ2 : Mem), I7 x1_2 τ2 →
  (((τ2 (0, 0, 0) 5) ≤ (τ2 (0, 0, 0) 10) →
    Q x1_2 τ2) ∧
  (¬ (τ2 (0, 0, 0) 5) ≤ (τ2 (0, 0, 0) 10) →
    J_X6_isOrder  τ2 (fun r4 τ4 =>
    ((¬ r4 = 0 →
      ∀ x1_6 : Int32, x1_6 = x1_2 + 1 →
      I7 x1_6 τ4 ∧ μ7 x1_6 τ4 < μ7 x1_2 τ2) ∧
    (r4 = 0 →
      Q (-1) τ4)))))
def J_X6_faultPosition (σ : Mem) (Q : Int32 → Mem → Prop) : Prop :=
J_X6_keeps  σ (fun τ1 =>
J_X6_reads  τ1 (fun r2 τ2 =>
J_X6_brings  τ2 (fun τ3 =>
((0 ≤ r2 →
  Q (-105) τ3) ∧
(¬ 0 ≤ r2 →
  Q (τ3 (0, 0, 0) 10) τ3)))))
def J_X6_gain (x1 : Int32) (x2 : Int32) (σ : Mem) (Q : Int32 → Mem → Prop) : Prop :=
J_X6_isUser x1 σ (fun r1 τ1 =>
((r1 = 0 →
  Q (-101) τ1) ∧
(¬ r1 = 0 →
  J_X6_isUser x2 τ1 (fun r3 τ3 =>
  ((¬ r3 = 0 →
    J_X6_isOlder x1 x2 τ3 (fun r5 τ5 =>
    ((r5 = 0 →
      Q (-103) τ5) ∧
    (¬ r5 = 0 →
      J_X6_gainOf x1 x2 τ5 (fun r7 τ7 =>
      Q r7 τ7))))) ∧
  (r3 = 0 →
    Q (-101) τ3))))))
def J_X6_gets (x1 : Int32) (σ : Mem) (Q : Int32 → Mem → Prop) : Prop :=
J_X6_isUser x1 σ (fun r1 τ1 =>
((¬ r1 = 0 →
  J_X6_distributes  τ1 (fun τ3 =>
  vp_in x1 12 ∧
  Q (τ3 (7, 0, 0) x1.toNatClampNeg) τ3)) ∧
(r1 = 0 →
  Q (-101) τ1)))
def J_X6_isFull (x1 : Int32) (σ : Mem) (Q : Int32 → Mem → Prop) : Prop :=
vp_in (154 + x1) 214 ∧
vp_in (142 + x1) 214 ∧
((¬ (σ (1, 0, 0) ((154 + x1).toNatClampNeg)) = (σ (1, 0, 0) ((142 + x1).toNatClampNeg)) →
  Q 0 σ) ∧
((σ (1, 0, 0) ((154 + x1).toNatClampNeg)) = (σ (1, 0, 0) ((142 + x1).toNatClampNeg)) →
  Q 1 σ))
def J_X6_hoursToFull_b41 (x1 : Int32)  (b1 : Int32) (b2 : Int32) (τ : Mem) (Q : Int32 → Mem → Prop) : Prop :=
J_X6_isFull b1 τ (fun r6 τ6 =>
((r6 = 0 →
  J_X6_brings  τ6 (fun τ8 =>
  Q (-105) τ8)) ∧
(¬ r6 = 0 →
  J_X6_brings  τ6 (fun τ9 =>
  Q b2 τ9))))
def J_X6_hoursToFull (x1 : Int32) (σ : Mem) (Q : Int32 → Mem → Prop) : Prop :=
J_X6_isUser x1 σ (fun r1 τ1 =>
((¬ r1 = 0 →
  J_X6_keeps  τ1 (fun τ3 =>
  ∃ (I17 : Int32 → Mem → Prop) (μ17 : Int32 → Mem → Nat), I17 0 τ3 ∧ ∀ (x2_4 : Int32) (τ4 : Mem), I17 x2_4 τ4 →
    ((48 ≤ x2_4 →
      J_X6_hoursToFull_b41 x1 x1 x2_4 τ4 Q) ∧
    (¬ 48 ≤ x2_4 →
      J_X6_isFull x1 τ4 (fun r10 τ10 =>
      ((¬ r10 = 0 →
        J_X6_hoursToFull_b41 x1 x1 x2_4 τ10 Q) ∧
      (r10 = 0 →
        J_X6_passes  τ10 (fun τ12 =>
        ∀ x2_13 : Int32, x2_13 = x2_4 + 1 →
        I17 x2_13 τ12 ∧ μ17 x2_13 τ12 < μ17 x2_4 τ4)))))))) ∧
(r1 = 0 →
  Q (-101) τ1)))
def J_X6_inflow (x1 : Int32) (σ : Mem) (Q : Int32 → Mem → Prop) : Prop :=
J_X6_isDitch x1 σ (fun r1 τ1 =>
((¬ r1 = 0 →
  J_X6_distributes  τ1 (fun τ3 =>
  vp_in x1 10 ∧
  Q (τ3 (8, 0, 0) x1.toNatClampNeg) τ3)) ∧
(r1 = 0 →
  Q (-101) τ1)))
def J_X6_isShut (x1 : Int32) (σ : Mem) (Q : Int32 → Mem → Prop) : Prop :=
J_X6_isUser x1 σ (fun r1 τ1 =>
((r1 = 0 →
  Q (-101) τ1) ∧
(¬ r1 = 0 →
  vp_in (202 + x1) 214 ∧
  Q (τ1 (1, 0, 0) ((202 + x1).toNatClampNeg)) τ1)))
def J_X6_leastSupply (x1 : Int32) (σ : Mem) (Q : Int32 → Mem → Prop) : Prop :=
J_X6_isUser x1 σ (fun r1 τ1 =>
((¬ r1 = 0 →
  J_X6_hour  τ1 (fun r3 τ3 =>
  ∀ x2_4 : Int32, x2_4 = 12 + r3 →
  vp_in x2_4 214 ∧
  ∀ x3_6 : Int32, x3_6 = τ3 (1, 0, 0) x2_4.toNatClampNeg →
  ∃ (I33 : Int32 → Int32 → Mem → Prop) (μ33 : Int32 → Int32 → Mem → Nat), I33 (-105) 0 τ3 ∧ ∀ (x4_7 : Int32) (x5_7 : Int32) (τ7 : Mem), I33 x4_7 x5_7 τ7 →
    ((200 < x5_7 →
      vp_in x2_4 214 ∧
      ∀ τ10 : Mem, τ10 = mup τ7 (1, 0, 0) x2_4.toNatClampNeg x3_6 →
      Q x4_7 τ10) ∧
    (¬ 200 < x5_7 →
      ((0 ≤ x4_7 →
        vp_in x2_4 214 ∧
        ∀ τ13 : Mem, τ13 = mup τ7 (1, 0, 0) x2_4.toNatClampNeg x3_6 →
        Q x4_7 τ13) ∧
      (¬ 0 ≤ x4_7 →
        vp_in x2_4 214 ∧
        ∀ τ15 : Mem, τ15 = mup τ7 (1, 0, 0) x2_4.toNatClampNeg x5_7 →
        J_X6_distributes  τ15 (fun τ16 =>
        vp_in x1 12 ∧
        vp_in x1 12 ∧
        (((τ16 (7, 0, 0) x1.toNatClampNeg) < (τ16 (6, 0, 0) x1.toNatClampNeg) →
          ∀ x5_20 : Int32, x5_20 = x5_7 + 1 →
          I33 x4_7 x5_20 τ16 ∧ μ33 x4_7 x5_20 τ16 < μ33 x4_7 x5_7 τ7) ∧
        (¬ (τ16 (7, 0, 0) x1.toNatClampNeg) < (τ16 (6, 0, 0) x1.toNatClampNeg) →
          ∀ x5_21 : Int32, x5_21 = x5_7 + 1 →
          I33 x5_7 x5_21 τ16 ∧ μ33 x5_7 x5_21 τ16 < μ33 x4_7 x5_7 τ7))))))))) ∧
(r1 = 0 →
  Q (-101) τ1)))
def J_X6_limit_b93 (x1 : Int32)  (b3 : Int32) (τ : Mem) (Q : Int32 → Mem → Prop) : Prop :=
vp_in b3 10 ∧
vp_in (50 + b3) 214 ∧
(((τ (8, 0, 0) b3.toNatClampNeg) ≤ (τ (1, 0, 0) ((50 + b3).toNatClampNeg)) →
  Q (-105) τ) ∧
(¬ (τ (8, 0, 0) b3.toNatClampNeg) ≤ (τ (1, 0, 0) ((50 + b3).toNatClampNeg)) →
  Q b3 τ))
def J_X6_limit (x1 : Int32) (σ : Mem) (Q : Int32 → Mem → Prop) : Prop :=
J_X6_isUser x1 σ (fun r1 τ1 =>
((¬ r1 = 0 →
  J_X6_distributes  τ1 (fun τ3 =>
  vp_in x1 12 ∧
  vp_in x1 12 ∧
  (((τ3 (7, 0, 0) x1.toNatClampNeg) < (τ3 (6, 0, 0) x1.toNatClampNeg) →
    vp_in x1 12 ∧
    vp_in x1 12 ∧
    ∀ τ9 : Mem, τ9 = mup τ3 (7, 0, 0) x1.toNatClampNeg ((τ3 (7, 0, 0) x1.toNatClampNeg) + 1) →
    J_X6_isPossible  τ9 (fun r10 τ10 =>
    vp_in (70 + x1) 214 ∧
    ∀ x3_12 : Int32, x3_12 = τ10 (1, 0, 0) ((70 + x1).toNatClampNeg) →
    ∃ (I58 : Int32 → Prop) (μ58 : Int32 → Nat), I58 x3_12 ∧ ∀ (x3_13 : Int32), I58 x3_13 →
      ((x3_13 ≤ 0 →
        J_X6_limit_b93 x1 x3_13 τ10 Q) ∧
      (¬ x3_13 ≤ 0 →
        vp_in x3_13 10 ∧
        vp_in (50 + x3_13) 214 ∧
        (((τ10 (1, 0, 0) ((50 + x3_13).toNatClampNeg)) < (τ10 (8, 0, 0) x3_13.toNatClampNeg) →
          J_X6_limit_b93 x1 x3_13 τ10 Q) ∧
        (¬ (τ10 (1, 0, 0) ((50 + x3_13).toNatClampNeg)) < (τ10 (8, 0, 0) x3_13.toNatClampNeg) →
          vp_in (40 + x3_13) 214 ∧
          ∀ x3_22 : Int32, x3_22 = τ10 (1, 0, 0) ((40 + x3_13).toNatClampNeg) →
          I58 x3_22 ∧ μ58 x3_22 < μ58 x3_13)))))) ∧
  (¬ (τ3 (7, 0, 0) x1.toNatClampNeg) < (τ3 (6, 0, 0) x1.toNatClampNeg) →
    Q (-103) τ3)))) ∧
(r1 = 0 →
  Q (-101) τ1)))
def J_X6_loses (x1 : Int32) (σ : Mem) (Q : Int32 → Mem → Prop) : Prop :=
J_X6_isDitch x1 σ (fun r1 τ1 =>
((¬ r1 = 0 →
  J_X6_distributes  τ1 (fun τ3 =>
  vp_in x1 10 ∧
  vp_in x1 10 ∧
  Q ((τ3 (8, 0, 0) x1.toNatClampNeg) - (τ3 (9, 0, 0) x1.toNatClampNeg)) τ3)) ∧
(r1 = 0 →
  Q (-101) τ1)))
def J_X6_missed (x1 : Int32) (σ : Mem) (Q : Int32 → Mem → Prop) : Prop :=
J_X6_isUser x1 σ (fun r1 τ1 =>
((r1 = 0 →
  Q (-101) τ1) ∧
(¬ r1 = 0 →
  vp_in (190 + x1) 214 ∧
  Q (τ1 (1, 0, 0) ((190 + x1).toNatClampNeg)) τ1)))
def J_X6_pond (x1 : Int32) (σ : Mem) (Q : Int32 → Mem → Prop) : Prop :=
J_X6_isUser x1 σ (fun r1 τ1 =>
((r1 = 0 →
  Q (-101) τ1) ∧
(¬ r1 = 0 →
  vp_in (154 + x1) 214 ∧
  Q (τ1 (1, 0, 0) ((154 + x1).toNatClampNeg)) τ1)))
def J_X6_read (σ : Mem) (Q : Int32 → Mem → Prop) : Prop :=
J_X6_keeps  σ (fun τ1 =>
J_X6_reads  τ1 (fun r2 τ2 =>
((0 ≤ r2 →
  Q r2 τ2) ∧
(¬ 0 ≤ r2 →
  J_X6_brings  τ2 (fun τ4 =>
  Q (-103) τ4)))))
def J_X6_restore (x1 : Int32) (σ : Mem) (Q : Int32 → Mem → Prop) : Prop :=
J_X6_in x1 0 1 σ (fun r1 τ1 =>
((¬ r1 = 0 →
  vp_in x1 2 ∧
  ((¬ (τ1 (4, 0, 0) x1.toNatClampNeg) = 0 →
    ∃ (I26 : Int32 → Mem → Prop) (μ26 : Int32 → Mem → Nat), I26 0 τ1 ∧ ∀ (x2_5 : Int32) (τ5 : Mem), I26 x2_5 τ5 →
      ((214 ≤ x2_5 →
        Q (τ5 (1, 0, 0) 0) τ5) ∧
      (¬ 214 ≤ x2_5 →
        vp_in ((214 * x1) + x2_5) 428 ∧
        vp_in x2_5 214 ∧
        ∀ τ9 : Mem, τ9 = mup τ5 (1, 0, 0) x2_5.toNatClampNeg (τ5 (3, 0, 0) (((214 * x1) + x2_5).toNatClampNeg)) →
        ∀ x2_10 : Int32, x2_10 = x2_5 + 1 →
        I26 x2_10 τ9 ∧ μ26 x2_10 τ9 < μ26 x2_5 τ5))) ∧
  ((τ1 (4, 0, 0) x1.toNatClampNeg) = 0 →
    Q (-103) τ1))) ∧
(r1 = 0 →
  Q (-101) τ1)))
def J_X6_save (x1 : Int32) (σ : Mem) (Q : Int32 → Mem → Prop) : Prop :=
J_X6_in x1 0 1 σ (fun r1 τ1 =>
((¬ r1 = 0 →
  ∃ (I14 : Int32 → Mem → Prop) (μ14 : Int32 → Mem → Nat), I14 0 τ1 ∧ ∀ (x2_3 : Int32) (τ3 : Mem), I14 x2_3 τ3 →
    ((214 ≤ x2_3 →
      vp_in x1 2 ∧
      ∀ τ6 : Mem, τ6 = mup τ3 (4, 0, 0) x1.toNatClampNeg (vp_nar .boolean 1) →
      Q (τ6 (1, 0, 0) 0) τ6) ∧
    (¬ 214 ≤ x2_3 →
      vp_in x2_3 214 ∧
      vp_in ((214 * x1) + x2_3) 428 ∧
      ∀ τ9 : Mem, τ9 = mup τ3 (3, 0, 0) (((214 * x1) + x2_3).toNatClampNeg) (τ3 (1, 0, 0) x2_3.toNatClampNeg) →
      ∀ x2_10 : Int32, x2_10 = x2_3 + 1 →
      I14 x2_10 τ9 ∧ μ14 x2_10 τ9 < μ14 x2_3 τ3))) ∧
(r1 = 0 →
  Q (-101) τ1)))
def J_X6_setDitch (x1 : Int32) (x2 : Int32) (x3 : Int32) (σ : Mem) (Q : Int32 → Mem → Prop) : Prop :=
J_X6_isDitch x1 σ (fun r1 τ1 =>
((¬ r1 = 0 →
  J_X6_isGate x2 x3 τ1 (fun r3 τ3 =>
  ((¬ r3 = 0 →
    vp_in (60 + x1) 214 ∧
    ∀ τ6 : Mem, τ6 = mup τ3 (1, 0, 0) ((60 + x1).toNatClampNeg) x3 →
    J_X6_puts (50 + x1) x2 τ6 (fun r7 τ7 =>
    Q r7 τ7)) ∧
  (r3 = 0 →
    Q (-102) τ3)))) ∧
(r1 = 0 →
  Q (-101) τ1)))
def J_X6_setField (x1 : Int32) (x2 : Int32) (x3 : Int32) (x4 : Int32) (σ : Mem) (Q : Int32 → Mem → Prop) : Prop :=
J_X6_isUser x1 σ (fun r1 τ1 =>
((¬ r1 = 0 →
  J_X6_in x2 0 60 τ1 (fun r3 τ3 =>
  ((r3 = 0 →
    Q (-102) τ3) ∧
  (¬ r3 = 0 →
    J_X6_in x3 0 23 τ3 (fun r5 τ5 =>
    ((r5 = 0 →
      Q (-102) τ5) ∧
    (¬ r5 = 0 →
      J_X6_in x4 (x3 + 1) 24 τ5 (fun r7 τ7 =>
      ((¬ r7 = 0 →
        vp_in (118 + x1) 214 ∧
        ∀ τ10 : Mem, τ10 = mup τ7 (1, 0, 0) ((118 + x1).toNatClampNeg) x3 →
        vp_in (130 + x1) 214 ∧
        ∀ τ12 : Mem, τ12 = mup τ10 (1, 0, 0) ((130 + x1).toNatClampNeg) x4 →
        J_X6_puts (106 + x1) x2 τ12 (fun r13 τ13 =>
        Q r13 τ13)) ∧
      (r7 = 0 →
        Q (-102) τ7)))))))))) ∧
(r1 = 0 →
  Q (-101) τ1)))
def J_X6_setFutile (x1 : Int32) (σ : Mem) (Q : Int32 → Mem → Prop) : Prop :=
J_X6_in x1 0 100 σ (fun r1 τ1 =>
((r1 = 0 →
  Q (-102) τ1) ∧
(¬ r1 = 0 →
  J_X6_puts 4 x1 τ1 (fun r3 τ3 =>
  Q r3 τ3))))
def J_X6_setPond (x1 : Int32) (x2 : Int32) (x3 : Int32) (σ : Mem) (Q : Int32 → Mem → Prop) : Prop :=
J_X6_isUser x1 σ (fun r1 τ1 =>
((¬ r1 = 0 →
  J_X6_in x2 0 500 τ1 (fun r3 τ3 =>
  ((r3 = 0 →
    Q (-102) τ3) ∧
  (¬ r3 = 0 →
    J_X6_in x3 0 20 τ3 (fun r5 τ5 =>
    ((¬ r5 = 0 →
      vp_in (142 + x1) 214 ∧
      ∀ τ8 : Mem, τ8 = mup τ5 (1, 0, 0) ((142 + x1).toNatClampNeg) x2 →
      vp_in (166 + x1) 214 ∧
      ∀ τ10 : Mem, τ10 = mup τ8 (1, 0, 0) ((166 + x1).toNatClampNeg) x3 →
      vp_in (154 + x1) 214 ∧
      J_X6_least (τ10 (1, 0, 0) ((154 + x1).toNatClampNeg)) x2 τ10 (fun r12 τ12 =>
      vp_in (154 + x1) 214 ∧
      ∀ τ14 : Mem, τ14 = mup τ12 (1, 0, 0) ((154 + x1).toNatClampNeg) r12 →
      vp_in (154 + x1) 214 ∧
      Q (τ14 (1, 0, 0) ((154 + x1).toNatClampNeg)) τ14)) ∧
    (r5 = 0 →
      Q (-102) τ5))))))) ∧
(r1 = 0 →
  Q (-101) τ1)))
def J_X6_setRule (x1 : Int32) (σ : Mem) (Q : Int32 → Mem → Prop) : Prop :=
J_X6_in x1 0 2 σ (fun r1 τ1 =>
((r1 = 0 →
  Q (-102) τ1) ∧
(¬ r1 = 0 →
  J_X6_puts 3 x1 τ1 (fun r3 τ3 =>
  Q r3 τ3))))
def J_X6_setSupply (x1 : Int32) (x2 : Int32) (x3 : Int32) (σ : Mem) (Q : Int32 → Mem → Prop) : Prop :=
J_X6_in x1 0 23 σ (fun r1 τ1 =>
((r1 = 0 →
  Q (-102) τ1) ∧
(¬ r1 = 0 →
  J_X6_in x2 (x1 + 1) 24 τ1 (fun r3 τ3 =>
  ((r3 = 0 →
    Q (-102) τ3) ∧
  (¬ r3 = 0 →
    J_X6_in x3 0 200 τ3 (fun r5 τ5 =>
    ((¬ r5 = 0 →
      J_X6_supplies x1 x2 x3 τ5 (fun r7 τ7 =>
      Q r7 τ7)) ∧
    (r5 = 0 →
      Q (-102) τ5)))))))))
def J_X6_setTurn (x1 : Int32) (x2 : Int32) (σ : Mem) (Q : Int32 → Mem → Prop) : Prop :=
J_X6_isUser x1 σ (fun r1 τ1 =>
((¬ r1 = 0 →
  J_X6_in x2 0 24 τ1 (fun r3 τ3 =>
  ((r3 = 0 →
    Q (-102) τ3) ∧
  (¬ r3 = 0 →
    J_X6_puts (178 + x1) x2 τ3 (fun r5 τ5 =>
    Q r5 τ5))))) ∧
(r1 = 0 →
  Q (-101) τ1)))
def J_X6_settle (σ : Mem) (Q : Int32 → Mem → Prop) : Prop :=
∃ (I4 : Int32 → Int32 → Mem → Prop) (μ4 : Int32 → Int32 → Mem → Nat), I4 0 0 σ ∧ ∀ (x1_1 : Int32) (x2_1 : Int32) (τ1 : Mem), I4 x1_1 x2_1 τ1 →
  (((τ1 (1, 0, 0) 2) ≤ x2_1 →
    Q x1_1 τ1) ∧
  (¬ (τ1 (1, 0, 0) 2) ≤ x2_1 →
    ∀ x3_3 : Int32, x3_3 = (τ1 (1, 0, 0) 2) - 1 →
    ∃ (I23 : Int32 → Int32 → Mem → Prop) (μ23 : Int32 → Int32 → Mem → Nat), I23 x1_1 x3_3 τ1 ∧ ∀ (x1_4 : Int32) (x3_4 : Int32) (τ4 : Mem), I23 x1_4 x3_4 τ4 →
      ((x3_4 ≤ x2_1 →
        ∀ x2_6 : Int32, x2_6 = x2_1 + 1 →
        I4 x1_4 x2_6 τ4 ∧ μ4 x1_4 x2_6 τ4 < μ4 x1_1 x2_1 τ1) ∧
      (¬ x3_4 ≤ x2_1 →
        J_X6_ranked x3_4 τ4 (fun r7 τ7 =>
        J_X6_ranked x2_1 τ7 (fun r8 τ8 =>
        J_X6_judged r8 r7 τ8 (fun r9 τ9 =>
        ((¬ r9 = 2 →
          ∀ x3_11 : Int32, x3_11 = x3_4 + (-1) →
          I23 x1_4 x3_11 τ9 ∧ μ23 x1_4 x3_11 τ9 < μ23 x1_4 x3_4 τ4) ∧
        (r9 = 2 →
          vp_in (202 + r7) 214 ∧
          ∀ τ13 : Mem, τ13 = mup τ9 (1, 0, 0) ((202 + r7).toNatClampNeg) 1 →
          ∀ x1_14 : Int32, x1_14 = x1_4 + 1 →
          ∀ x3_15 : Int32, x3_15 = x3_4 + (-1) →
          I23 x1_14 x3_15 τ13 ∧ μ23 x1_14 x3_15 τ13 < μ23 x1_4 x3_4 τ4)))))))))
def J_X6_time (σ : Mem) (Q : Int32 → Mem → Prop) : Prop :=
Q (σ (1, 0, 0) 0) σ
def J_X6_usefulGate (x1 : Int32) (σ : Mem) (Q : Int32 → Mem → Prop) : Prop :=
J_X6_isDitch x1 σ (fun r1 τ1 =>
((¬ r1 = 0 →
  vp_in (50 + x1) 214 ∧
  ∀ x2_4 : Int32, x2_4 = τ1 (1, 0, 0) ((50 + x1).toNatClampNeg) →
  vp_in (50 + x1) 214 ∧
  ∀ τ6 : Mem, τ6 = mup τ1 (1, 0, 0) ((50 + x1).toNatClampNeg) 200 →
  J_X6_distributes  τ6 (fun τ7 =>
  J_X6_all  τ7 (fun r8 τ8 =>
  ∃ (I48 : Int32 → Int32 → Mem → Prop) (μ48 : Int32 → Int32 → Mem → Nat), I48 0 0 τ8 ∧ ∀ (x4_9 : Int32) (x5_9 : Int32) (τ9 : Mem), I48 x4_9 x5_9 τ9 →
    ((¬ x5_9 = 0 →
      vp_in (50 + x1) 214 ∧
      ∀ τ12 : Mem, τ12 = mup τ9 (1, 0, 0) ((50 + x1).toNatClampNeg) x2_4 →
      Q x4_9 τ12) ∧
    (x5_9 = 0 →
      ∀ x4_13 : Int32, x4_13 = x4_9 + 1 →
      vp_in (50 + x1) 214 ∧
      ∀ τ15 : Mem, τ15 = mup τ9 (1, 0, 0) ((50 + x1).toNatClampNeg) x4_13 →
      J_X6_distributes  τ15 (fun τ16 =>
      J_X6_all  τ16 (fun r17 τ17 =>
      ((¬ r17 = r8 →
        I48 x4_13 0 τ17 ∧ μ48 x4_13 0 τ17 < μ48 x4_9 x5_9 τ9) ∧
      (r17 = r8 →
        I48 x4_13 1 τ17 ∧ μ48 x4_13 1 τ17 < μ48 x4_9 x5_9 τ9))))))))) ∧
(r1 = 0 →
  Q (-101) τ1)))
def J_X6_userByAge (x1 : Int32) (σ : Mem) (Q : Int32 → Mem → Prop) : Prop :=
J_X6_ranked x1 σ (fun r1 τ1 =>
Q r1 τ1)
def J_X6_users (σ : Mem) (Q : Int32 → Mem → Prop) : Prop :=
Q (σ (1, 0, 0) 2) σ
def J_X6_willMiss (x1 : Int32) (x2 : Int32) (σ : Mem) (Q : Int32 → Mem → Prop) : Prop :=
J_X6_isUser x1 σ (fun r1 τ1 =>
((¬ r1 = 0 →
  J_X6_in x2 1 48 τ1 (fun r3 τ3 =>
  ((¬ r3 = 0 →
    J_X6_keeps  τ3 (fun τ5 =>
    ∃ (I30 : Int32 → Mem → Prop) (μ30 : Int32 → Mem → Nat), I30 0 τ5 ∧ ∀ (x3_6 : Int32) (τ6 : Mem), I30 x3_6 τ6 →
      ((x2 ≤ x3_6 →
        vp_in (190 + x1) 214 ∧
        vp_in (190 + x1) 214 ∧
        ∀ x3_10 : Int32, x3_10 = (τ6 (1, 0, 0) ((190 + x1).toNatClampNeg)) - (τ6 (2, 0, 0) ((190 + x1).toNatClampNeg)) →
        J_X6_brings  τ6 (fun τ11 =>
        Q x3_10 τ11)) ∧
      (¬ x2 ≤ x3_6 →
        J_X6_passes  τ6 (fun τ12 =>
        ∀ x3_13 : Int32, x3_13 = x3_6 + 1 →
        I30 x3_13 τ12 ∧ μ30 x3_13 τ12 < μ30 x3_6 τ6))))) ∧
  (r3 = 0 →
    Q (-102) τ3)))) ∧
(r1 = 0 →
  Q (-101) τ1)))
