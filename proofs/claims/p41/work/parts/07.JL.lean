def J_L_cell (L : Nat) (xs : Nat → Int32) (x1 : Int32) (σ : Mem) (Q : Int32 → Mem → Prop) : Prop :=
(((Int32.ofNat L) ≤ x1 →
  Q (((15512099 * x1) + 251) &&& 2147483647) σ) ∧
(¬ (Int32.ofNat L) ≤ x1 →
  vp_in x1 L ∧
  Q ((xs x1.toNatClampNeg) &&& 2147483647) σ))
def J_L_builds_b476 (L : Nat) (xs : Nat → Int32) (x2 : Int32)  (b7 : Int32) (τ : Mem) (Q : Int32 → Mem → Prop) : Prop :=
((b7 = 0 →
  Q 0 τ) ∧
(¬ b7 = 0 →
  J_X5_ditches  τ (fun r16 τ16 =>
  ((¬ r16 = (τ16 (18, 0, 0) 0) →
    Q 0 τ16) ∧
  (r16 = (τ16 (18, 0, 0) 0) →
    J_X5_users  τ16 (fun r18 τ18 =>
    ((¬ r18 = (τ18 (18, 0, 0) 1) →
      Q 0 τ18) ∧
    (r18 = (τ18 (18, 0, 0) 1) →
      Q 1 τ18))))))))
def J_L_builds_b388 (L : Nat) (xs : Nat → Int32) (x2 : Int32) (b2 : Int32) (K264 : Int32 → Int32 → Mem → Prop) (b8 : Int32) (t0 : Int32) (t1 : Int32) (τ : Mem) (Q : Int32 → Mem → Prop) : Prop :=
vp_in t1 64 ∧
∀ τ33 : Mem, τ33 = mup τ (17, 0, 0) t1.toNatClampNeg t0 →
vp_in (5 * b8) 64 ∧
vp_in ((5 * b8) + 1) 64 ∧
vp_in ((5 * b8) + 2) 64 ∧
J_X5_addUser (τ33 (17, 0, 0) ((5 * b8).toNatClampNeg)) (τ33 (17, 0, 0) (((5 * b8) + 1).toNatClampNeg)) (τ33 (17, 0, 0) (((5 * b8) + 2).toNatClampNeg)) τ33 (fun r37 τ37 =>
((¬ r37 = b8 →
  ∀ x8_39 : Int32, x8_39 = b8 + 1 →
  K264 0 x8_39 τ37) ∧
(r37 = b8 →
  vp_in ((5 * b8) + 3) 64 ∧
  J_X5_setField b8 (τ37 (17, 0, 0) (((5 * b8) + 3).toNatClampNeg)) 0 24 τ37 (fun r41 τ41 =>
  ((¬ r41 = 0 →
    ∀ x8_43 : Int32, x8_43 = b8 + 1 →
    K264 0 x8_43 τ41) ∧
  (r41 = 0 →
    vp_in ((5 * b8) + 4) 64 ∧
    J_X5_setPond b8 (τ41 (17, 0, 0) (((5 * b8) + 4).toNatClampNeg)) 0 τ41 (fun r45 τ45 =>
    ((¬ r45 = 0 →
      ∀ x8_47 : Int32, x8_47 = b8 + 1 →
      K264 0 x8_47 τ45) ∧
    (r45 = 0 →
      ∀ x8_48 : Int32, x8_48 = b8 + 1 →
      K264 1 x8_48 τ45)))))))))
def J_L_builds_b261 (L : Nat) (xs : Nat → Int32) (x2 : Int32)  (b2 : Int32) (b7 : Int32) (τ : Mem) (Q : Int32 → Mem → Prop) : Prop :=
∃ (I264 : Int32 → Int32 → Mem → Prop) (μ264 : Int32 → Int32 → Mem → Nat), I264 b7 0 τ ∧ ∀ (x7_13 : Int32) (x8_13 : Int32) (τ13 : Mem), I264 x7_13 x8_13 τ13 →
  (((τ13 (18, 0, 0) 1) ≤ x8_13 →
    J_L_builds_b476 L xs x2 x7_13 τ13 Q) ∧
  (¬ (τ13 (18, 0, 0) 1) ≤ x8_13 →
    ((x7_13 = 0 →
      J_L_builds_b476 L xs x2 x7_13 τ13 Q) ∧
    (¬ x7_13 = 0 →
      J_L_cell L xs ((b2 + 5) + x8_13) τ13 (fun r21 τ21 =>
      (¬ (τ21 (18, 0, 0) 0) = 0) ∧
      vp_in (5 * x8_13) 64 ∧
      ∀ τ24 : Mem, τ24 = mup τ21 (17, 0, 0) ((5 * x8_13).toNatClampNeg) (r21 - r21 / (τ21 (18, 0, 0) 0) * (τ21 (18, 0, 0) 0)) →
      vp_in ((5 * x8_13) + 1) 64 ∧
      ∀ τ26 : Mem, τ26 = mup τ24 (17, 0, 0) (((5 * x8_13) + 1).toNatClampNeg) (1880 + ((r21 >>> ((4 : Int32) &&& 31) : Int32) - (r21 >>> ((4 : Int32) &&& 31) : Int32) / 9 * 9)) →
      vp_in ((5 * x8_13) + 2) 64 ∧
      ∀ τ28 : Mem, τ28 = mup τ26 (17, 0, 0) (((5 * x8_13) + 2).toNatClampNeg) ((r21 >>> ((8 : Int32) &&& 31) : Int32) - (r21 >>> ((8 : Int32) &&& 31) : Int32) / 40 * 40) →
      vp_in ((5 * x8_13) + 3) 64 ∧
      ∀ τ30 : Mem, τ30 = mup τ28 (17, 0, 0) (((5 * x8_13) + 3).toNatClampNeg) ((r21 >>> ((14 : Int32) &&& 31) : Int32) - (r21 >>> ((14 : Int32) &&& 31) : Int32) / 30 * 30) →
      ((¬ ((r21 >>> ((19 : Int32) &&& 31) : Int32) - (r21 >>> ((19 : Int32) &&& 31) : Int32) / 3 * 3) = 0 →
        J_L_builds_b388 L xs x2 b2 (fun z0 z1 z2 => I264 z0 z1 z2 ∧ μ264 z0 z1 z2 < μ264 x7_13 x8_13 τ13) x8_13 0 ((5 * x8_13) + 4) τ30 Q) ∧
      (((r21 >>> ((19 : Int32) &&& 31) : Int32) - (r21 >>> ((19 : Int32) &&& 31) : Int32) / 3 * 3) = 0 →
        J_L_builds_b388 L xs x2 b2 (fun z0 z1 z2 => I264 z0 z1 z2 ∧ μ264 z0 z1 z2 < μ264 x7_13 x8_13 τ13) x8_13 ((r21 >>> ((21 : Int32) &&& 31) : Int32) - (r21 >>> ((21 : Int32) &&& 31) : Int32) / 60 * 60) ((5 * x8_13) + 4) τ30 Q)))))))
def J_L_builds_b216 (L : Nat) (xs : Nat → Int32) (x2 : Int32) (b2 : Int32) (K135 : Int32 → Int32 → Mem → Prop) (b8 : Int32) (t0 : Int32) (t1 : Int32) (τ : Mem) (Q : Int32 → Mem → Prop) : Prop :=
vp_in t1 32 ∧
∀ τ58 : Mem, τ58 = mup τ (16, 0, 0) t1.toNatClampNeg t0 →
vp_in (3 * b8) 32 ∧
vp_in ((3 * b8) + 1) 32 ∧
vp_in ((3 * b8) + 2) 32 ∧
J_X5_addDitch (τ58 (16, 0, 0) ((3 * b8).toNatClampNeg)) (τ58 (16, 0, 0) (((3 * b8) + 1).toNatClampNeg)) (τ58 (16, 0, 0) (((3 * b8) + 2).toNatClampNeg)) τ58 (fun r62 τ62 =>
((¬ r62 = b8 →
  ∀ x8_64 : Int32, x8_64 = b8 + 1 →
  K135 0 x8_64 τ62) ∧
(r62 = b8 →
  ∀ x8_65 : Int32, x8_65 = b8 + 1 →
  K135 1 x8_65 τ62)))
def J_L_builds_b130 (L : Nat) (xs : Nat → Int32) (x2 : Int32)  (b2 : Int32) (t0 : Int32) (τ : Mem) (Q : Int32 → Mem → Prop) : Prop :=
∃ (I135 : Int32 → Int32 → Mem → Prop) (μ135 : Int32 → Int32 → Mem → Nat), I135 t0 1 τ ∧ ∀ (x7_11 : Int32) (x8_11 : Int32) (τ11 : Mem), I135 x7_11 x8_11 τ11 →
  (((τ11 (18, 0, 0) 0) ≤ x8_11 →
    J_L_builds_b261 L xs x2 b2 x7_11 τ11 Q) ∧
  (¬ (τ11 (18, 0, 0) 0) ≤ x8_11 →
    ((x7_11 = 0 →
      J_L_builds_b261 L xs x2 b2 x7_11 τ11 Q) ∧
    (¬ x7_11 = 0 →
      J_L_cell L xs (b2 + x8_11) τ11 (fun r50 τ50 =>
      (¬ x8_11 = 0) ∧
      vp_in (3 * x8_11) 32 ∧
      ∀ τ53 : Mem, τ53 = mup τ50 (16, 0, 0) ((3 * x8_11).toNatClampNeg) (r50 - r50 / x8_11 * x8_11) →
      vp_in ((3 * x8_11) + 1) 32 ∧
      ∀ τ55 : Mem, τ55 = mup τ53 (16, 0, 0) (((3 * x8_11) + 1).toNatClampNeg) (1 + ((r50 >>> ((4 : Int32) &&& 31) : Int32) - (r50 >>> ((4 : Int32) &&& 31) : Int32) / 80 * 80)) →
      ((¬ ((r50 >>> ((12 : Int32) &&& 31) : Int32) - (r50 >>> ((12 : Int32) &&& 31) : Int32) / 3 * 3) = 0 →
        J_L_builds_b216 L xs x2 b2 (fun z0 z1 z2 => I135 z0 z1 z2 ∧ μ135 z0 z1 z2 < μ135 x7_11 x8_11 τ11) x8_11 ((r50 >>> ((14 : Int32) &&& 31) : Int32) - (r50 >>> ((14 : Int32) &&& 31) : Int32) / 51 * 51) ((3 * x8_11) + 2) τ55 Q) ∧
      (((r50 >>> ((12 : Int32) &&& 31) : Int32) - (r50 >>> ((12 : Int32) &&& 31) : Int32) / 3 * 3) = 0 →
        J_L_builds_b216 L xs x2 b2 (fun z0 z1 z2 => I135 z0 z1 z2 ∧ μ135 z0 z1 z2 < μ135 x7_11 x8_11 τ11) x8_11 0 ((3 * x8_11) + 2) τ55 Q)))))))
def J_L_builds (L : Nat) (xs : Nat → Int32) (x2 : Int32) (σ : Mem) (Q : Int32 → Mem → Prop) : Prop :=
J_L_cell L xs x2 σ (fun r1 τ1 =>
∀ τ2 : Mem, τ2 = mup τ1 (18, 0, 0) 0 (1 + (r1 - r1 / 5 * 5)) →
∀ τ3 : Mem, τ3 = mup τ2 (18, 0, 0) 1 (1 + ((r1 >>> ((3 : Int32) &&& 31) : Int32) - (r1 >>> ((3 : Int32) &&& 31) : Int32) / 6 * 6)) →
∀ τ4 : Mem, τ4 = mup τ3 (18, 0, 0) 2 ((r1 >>> ((6 : Int32) &&& 31) : Int32) - (r1 >>> ((6 : Int32) &&& 31) : Int32) / 120 * 120) →
∀ τ5 : Mem, τ5 = mup τ4 (18, 0, 0) 3 ((r1 >>> ((13 : Int32) &&& 31) : Int32) - (r1 >>> ((13 : Int32) &&& 31) : Int32) / 3 * 3) →
∀ τ6 : Mem, τ6 = mup τ5 (16, 0, 0) 0 0 →
∀ τ7 : Mem, τ7 = mup τ6 (16, 0, 0) 1 (1 + ((r1 >>> ((15 : Int32) &&& 31) : Int32) - (r1 >>> ((15 : Int32) &&& 31) : Int32) / 150 * 150)) →
∀ τ8 : Mem, τ8 = mup τ7 (16, 0, 0) 2 ((r1 >>> ((22 : Int32) &&& 31) : Int32) - (r1 >>> ((22 : Int32) &&& 31) : Int32) / 51 * 51) →
J_X5_setDitch 0 (τ8 (16, 0, 0) 1) (τ8 (16, 0, 0) 2) τ8 (fun r9 τ9 =>
((¬ r9 = 100 →
  J_L_builds_b130 L xs x2 x2 0 τ9 Q) ∧
(r9 = 100 →
  J_X5_setSupply 0 24 (τ9 (18, 0, 0) 2) τ9 (fun r66 τ66 =>
  ((¬ r66 = 100 →
    J_L_builds_b130 L xs x2 x2 0 τ66 Q) ∧
  (r66 = 100 →
    J_X5_setRule (τ66 (18, 0, 0) 3) τ66 (fun r68 τ68 =>
    ((¬ r68 = 0 →
      J_L_builds_b130 L xs x2 x2 0 τ68 Q) ∧
    (r68 = 0 →
      J_L_builds_b130 L xs x2 x2 1 τ68 Q))))))))))
def J_L_eldest_b36   (b2 : Int32) (b3 : Int32) (b4 : Int32) (t0 : Int32) (τ : Mem) (Q : Int32 → Mem → Prop) : Prop :=
∃ (I41 : Int32 → Int32 → Mem → Prop) (μ41 : Int32 → Int32 → Mem → Nat), I41 t0 0 τ ∧ ∀ (x5_7 : Int32) (x6_7 : Int32) (τ7 : Mem), I41 x5_7 x6_7 τ7 →
  (((τ7 (18, 0, 0) 1) ≤ x6_7 →
    ((x5_7 = 0 →
      Q 0 τ7) ∧
    (¬ x5_7 = 0 →
      J_X5_gets b2 τ7 (fun r10 τ10 =>
      ((¬ r10 = b4 →
        Q 0 τ10) ∧
      (r10 = b4 →
        J_X5_setRule b3 τ10 (fun r12 τ12 =>
        ((¬ r12 = 0 →
          Q 0 τ12) ∧
        (r12 = 0 →
          Q 1 τ12))))))))) ∧
  (¬ (τ7 (18, 0, 0) 1) ≤ x6_7 →
    ((x5_7 = 0 →
      ∀ x6_15 : Int32, x6_15 = x6_7 + 1 →
      I41 0 x6_15 τ7 ∧ μ41 0 x6_15 τ7 < μ41 x5_7 x6_7 τ7) ∧
    (¬ x5_7 = 0 →
      ((x6_7 = b2 →
        ∀ x6_17 : Int32, x6_17 = x6_7 + 1 →
        I41 1 x6_17 τ7 ∧ μ41 1 x6_17 τ7 < μ41 x5_7 x6_7 τ7) ∧
      (¬ x6_7 = b2 →
        J_X5_gain b2 x6_7 τ7 (fun r18 τ18 =>
        ((¬ r18 = 0 →
          ∀ x6_20 : Int32, x6_20 = x6_7 + 1 →
          I41 0 x6_20 τ18 ∧ μ41 0 x6_20 τ18 < μ41 x5_7 x6_7 τ7) ∧
        (r18 = 0 →
          J_X5_complaint b2 x6_7 τ18 (fun r21 τ21 =>
          ((r21 = 2 →
            ∀ x6_23 : Int32, x6_23 = x6_7 + 1 →
            I41 0 x6_23 τ21 ∧ μ41 0 x6_23 τ21 < μ41 x5_7 x6_7 τ7) ∧
          (¬ r21 = 2 →
            ∀ x6_24 : Int32, x6_24 = x6_7 + 1 →
            I41 1 x6_24 τ21 ∧ μ41 1 x6_24 τ21 < μ41 x5_7 x6_7 τ7))))))))))))
def J_L_eldest (σ : Mem) (Q : Int32 → Mem → Prop) : Prop :=
J_X5_userByAge 0 σ (fun r1 τ1 =>
J_X5_setRule 0 τ1 (fun r2 τ2 =>
J_X5_gets r1 τ2 (fun r3 τ3 =>
J_X5_save 1 τ3 (fun r4 τ4 =>
J_X5_time  τ4 (fun r5 τ5 =>
((¬ r4 = r5 →
  J_L_eldest_b36 r1 r2 r3 0 τ5 Q) ∧
(r4 = r5 →
  J_L_eldest_b36 r1 r2 r3 1 τ5 Q)))))))
def J_L_older (x1 : Int32) (x2 : Int32) (σ : Mem) (Q : Int32 → Mem → Prop) : Prop :=
vp_in ((5 * x1) + 1) 64 ∧
vp_in ((5 * x2) + 1) 64 ∧
(((σ (17, 0, 0) (((5 * x1) + 1).toNatClampNeg)) < (σ (17, 0, 0) (((5 * x2) + 1).toNatClampNeg)) →
  Q 1 σ) ∧
(¬ (σ (17, 0, 0) (((5 * x1) + 1).toNatClampNeg)) < (σ (17, 0, 0) (((5 * x2) + 1).toNatClampNeg)) →
  vp_in ((5 * x1) + 1) 64 ∧
  vp_in ((5 * x2) + 1) 64 ∧
  ((¬ (σ (17, 0, 0) (((5 * x1) + 1).toNatClampNeg)) = (σ (17, 0, 0) (((5 * x2) + 1).toNatClampNeg)) →
    Q 0 σ) ∧
  ((σ (17, 0, 0) (((5 * x1) + 1).toNatClampNeg)) = (σ (17, 0, 0) (((5 * x2) + 1).toNatClampNeg)) →
    ((x2 ≤ x1 →
      Q 0 σ) ∧
    (¬ x2 ≤ x1 →
      Q 1 σ))))))
def J_L_sound_b295   (b4 : Int32) (b5 : Int32) (b6 : Int32) (τ : Mem) (Q : Int32 → Mem → Prop) : Prop :=
((b6 = 0 →
  Q 0 τ) ∧
(¬ b6 = 0 →
  J_X5_inflow 0 τ (fun r8 τ8 =>
  ((¬ r8 = (b4 + b5) →
    Q 0 τ8) ∧
  (r8 = (b4 + b5) →
    J_X5_limit (τ8 (18, 0, 0) 1) τ8 (fun r10 τ10 =>
    ((¬ r10 = (-101) →
      Q 0 τ10) ∧
    (r10 = (-101) →
      J_X5_usefulGate (τ10 (18, 0, 0) 0) τ10 (fun r12 τ12 =>
      ((¬ r12 = (-101) →
        Q 0 τ12) ∧
      (r12 = (-101) →
        Q 1 τ12)))))))))))
def J_L_sound_b249 (b4 : Int32) (K119 : Int32 → Int32 → Int32 → Mem → Prop) (b5 : Int32) (b7 : Int32) (t0 : Int32) (τ : Mem) (Q : Int32 → Mem → Prop) : Prop :=
((t0 = 0 →
  ∀ x7_24 : Int32, x7_24 = b7 + 1 →
  K119 b5 0 x7_24 τ) ∧
(¬ t0 = 0 →
  ((b7 = 0 →
    ∀ x7_26 : Int32, x7_26 = b7 + 1 →
    K119 b5 1 x7_26 τ) ∧
  (¬ b7 = 0 →
    J_X5_userByAge (b7 - 1) τ (fun r27 τ27 =>
    J_X5_userByAge b7 τ27 (fun r28 τ28 =>
    J_L_older r27 r28 τ28 (fun r29 τ29 =>
    ((r29 = 0 →
      ∀ x7_31 : Int32, x7_31 = b7 + 1 →
      K119 b5 0 x7_31 τ29) ∧
    (¬ r29 = 0 →
      ∀ x7_32 : Int32, x7_32 = b7 + 1 →
      K119 b5 1 x7_32 τ29)))))))))
def J_L_sound_b211 (b4 : Int32) (K119 : Int32 → Int32 → Int32 → Mem → Prop) (b5 : Int32) (b7 : Int32) (b8 : Int32) (t0 : Int32) (t1 : Int32) (τ : Mem) (Q : Int32 → Mem → Prop) : Prop :=
((¬ t1 = t0 →
  J_L_sound_b249 b4 (fun z0 z1 z2 z3 => K119 z0 z1 z2 z3) b5 b7 0 τ Q) ∧
(t1 = t0 →
  ((0 ≤ b8 →
    (((τ (18, 0, 0) 0) ≤ b8 →
      J_L_sound_b249 b4 (fun z0 z1 z2 z3 => K119 z0 z1 z2 z3) b5 b7 0 τ Q) ∧
    (¬ (τ (18, 0, 0) 0) ≤ b8 →
      J_L_sound_b249 b4 (fun z0 z1 z2 z3 => K119 z0 z1 z2 z3) b5 b7 1 τ Q))) ∧
  (¬ 0 ≤ b8 →
    ((b8 = (-103) →
      J_L_sound_b249 b4 (fun z0 z1 z2 z3 => K119 z0 z1 z2 z3) b5 b7 1 τ Q) ∧
    (¬ b8 = (-103) →
      ((¬ b8 = (-105) →
        J_L_sound_b249 b4 (fun z0 z1 z2 z3 => K119 z0 z1 z2 z3) b5 b7 0 τ Q) ∧
      (b8 = (-105) →
        J_L_sound_b249 b4 (fun z0 z1 z2 z3 => K119 z0 z1 z2 z3) b5 b7 1 τ Q))))))))
def J_L_sound_b171 (b4 : Int32) (K119 : Int32 → Int32 → Int32 → Mem → Prop) (b5 : Int32) (b7 : Int32) (b8 : Int32) (t0 : Int32) (τ : Mem) (Q : Int32 → Mem → Prop) : Prop :=
J_X5_gets b7 τ (fun r21 τ21 =>
((r21 < 0 →
  J_L_sound_b249 b4 (fun z0 z1 z2 z3 => K119 z0 z1 z2 z3) b5 b7 0 τ21 Q) ∧
(¬ r21 < 0 →
  J_X5_gets b7 τ21 (fun r33 τ33 =>
  J_X5_asks b7 τ33 (fun r34 τ34 =>
  ((r34 < r33 →
    J_L_sound_b249 b4 (fun z0 z1 z2 z3 => K119 z0 z1 z2 z3) b5 b7 0 τ34 Q) ∧
  (¬ r34 < r33 →
    ((¬ b8 = (-103) →
      J_L_sound_b211 b4 (fun z0 z1 z2 z3 => K119 z0 z1 z2 z3) b5 b7 b8 0 t0 τ34 Q) ∧
    (b8 = (-103) →
      J_L_sound_b211 b4 (fun z0 z1 z2 z3 => K119 z0 z1 z2 z3) b5 b7 b8 1 t0 τ34 Q)))))))))
def J_L_sound_b116   (b4 : Int32) (b5 : Int32) (b6 : Int32) (τ : Mem) (Q : Int32 → Mem → Prop) : Prop :=
∃ (I119 : Int32 → Int32 → Int32 → Mem → Prop) (μ119 : Int32 → Int32 → Int32 → Mem → Nat), I119 b5 b6 0 τ ∧ ∀ (x5_5 : Int32) (x6_5 : Int32) (x7_5 : Int32) (τ5 : Mem), I119 x5_5 x6_5 x7_5 τ5 →
  (((τ5 (18, 0, 0) 1) ≤ x7_5 →
    J_L_sound_b295 b4 x5_5 x6_5 τ5 Q) ∧
  (¬ (τ5 (18, 0, 0) 1) ≤ x7_5 →
    ((x6_5 = 0 →
      J_L_sound_b295 b4 x5_5 x6_5 τ5 Q) ∧
    (¬ x6_5 = 0 →
      J_X5_gets x7_5 τ5 (fun r15 τ15 =>
      ∀ x5_16 : Int32, x5_16 = x5_5 + r15 →
      J_X5_limit x7_5 τ15 (fun r17 τ17 =>
      J_X5_gets x7_5 τ17 (fun r18 τ18 =>
      J_X5_asks x7_5 τ18 (fun r19 τ19 =>
      ((¬ r18 = r19 →
        J_L_sound_b171 b4 (fun z0 z1 z2 z3 => I119 z0 z1 z2 z3 ∧ μ119 z0 z1 z2 z3 < μ119 x5_5 x6_5 x7_5 τ5) x5_16 x7_5 r17 0 τ19 Q) ∧
      (r18 = r19 →
        J_L_sound_b171 b4 (fun z0 z1 z2 z3 => I119 z0 z1 z2 z3 ∧ μ119 z0 z1 z2 z3 < μ119 x5_5 x6_5 x7_5 τ5) x5_16 x7_5 r17 1 τ19 Q))))))))))
def J_L_sound_b22   (b4 : Int32) (b5 : Int32) (t0 : Int32) (τ : Mem) (Q : Int32 → Mem → Prop) : Prop :=
∃ (I27 : Int32 → Int32 → Int32 → Mem → Prop) (μ27 : Int32 → Int32 → Int32 → Mem → Nat), I27 b4 t0 0 τ ∧ ∀ (x4_3 : Int32) (x6_3 : Int32) (x7_3 : Int32) (τ3 : Mem), I27 x4_3 x6_3 x7_3 τ3 →
  (((τ3 (18, 0, 0) 0) ≤ x7_3 →
    J_L_sound_b116 x4_3 b5 x6_3 τ3 Q) ∧
  (¬ (τ3 (18, 0, 0) 0) ≤ x7_3 →
    ((x6_3 = 0 →
      J_L_sound_b116 x4_3 b5 x6_3 τ3 Q) ∧
    (¬ x6_3 = 0 →
      J_X5_loses x7_3 τ3 (fun r43 τ43 =>
      ∀ x4_44 : Int32, x4_44 = x4_3 + r43 →
      J_X5_inflow x7_3 τ43 (fun r45 τ45 =>
      ((r45 < 0 →
        ∀ x7_47 : Int32, x7_47 = x7_3 + 1 →
        I27 x4_44 0 x7_47 τ45 ∧ μ27 x4_44 0 x7_47 τ45 < μ27 x4_3 x6_3 x7_3 τ3) ∧
      (¬ r45 < 0 →
        vp_in ((3 * x7_3) + 1) 32 ∧
        (((τ45 (16, 0, 0) (((3 * x7_3) + 1).toNatClampNeg)) < r45 →
          ∀ x7_50 : Int32, x7_50 = x7_3 + 1 →
          I27 x4_44 0 x7_50 τ45 ∧ μ27 x4_44 0 x7_50 τ45 < μ27 x4_3 x6_3 x7_3 τ3) ∧
        (¬ (τ45 (16, 0, 0) (((3 * x7_3) + 1).toNatClampNeg)) < r45 →
          J_X5_loses x7_3 τ45 (fun r51 τ51 =>
          vp_in ((3 * x7_3) + 2) 32 ∧
          ((¬ r51 = (((r45 * (τ51 (16, 0, 0) (((3 * x7_3) + 2).toNatClampNeg))) + 99) / 100) →
            ∀ x7_54 : Int32, x7_54 = x7_3 + 1 →
            I27 x4_44 0 x7_54 τ51 ∧ μ27 x4_44 0 x7_54 τ51 < μ27 x4_3 x6_3 x7_3 τ3) ∧
          (r51 = (((r45 * (τ51 (16, 0, 0) (((3 * x7_3) + 2).toNatClampNeg))) + 99) / 100) →
            ∀ x7_55 : Int32, x7_55 = x7_3 + 1 →
            I27 x4_44 1 x7_55 τ51 ∧ μ27 x4_44 1 x7_55 τ51 < μ27 x4_3 x6_3 x7_3 τ3)))))))))))))
def J_L_sound (σ : Mem) (Q : Int32 → Mem → Prop) : Prop :=
J_X5_inflow 0 σ (fun r1 τ1 =>
(((τ1 (18, 0, 0) 2) < r1 →
  J_L_sound_b22 0 0 0 τ1 Q) ∧
(¬ (τ1 (18, 0, 0) 2) < r1 →
  J_L_sound_b22 0 0 1 τ1 Q)))
def J_L_refuses_b276   (c2 : Int64) (t0 : Int32) (τ : Mem) (Q : Int32 → Mem → Prop) : Prop :=
((t0 = 0 →
  Q 0 τ) ∧
(¬ t0 = 0 →
  J_X5_checksum  τ (fun r7 τ7 =>
  ((¬ (lg_cmp r7 c2) = 0 →
    Q 0 τ7) ∧
  ((lg_cmp r7 c2) = 0 →
    Q 1 τ7)))))
def J_L_refuses_b187   (c2 : Int64) (t0 : Int32) (τ : Mem) (Q : Int32 → Mem → Prop) : Prop :=
((t0 = 0 →
  J_L_refuses_b276 c2 0 τ Q) ∧
(¬ t0 = 0 →
  J_X5_gain 0 (τ (18, 0, 0) 1) τ (fun r9 τ9 =>
  ((¬ r9 = (-101) →
    J_L_refuses_b276 c2 0 τ9 Q) ∧
  (r9 = (-101) →
    J_X5_complaint 0 0 τ9 (fun r11 τ11 =>
    ((¬ r11 = (-103) →
      J_L_refuses_b276 c2 0 τ11 Q) ∧
    (r11 = (-103) →
      J_X5_willMiss 0 0 τ11 (fun r13 τ13 =>
      ((¬ r13 = (-102) →
        J_L_refuses_b276 c2 0 τ13 Q) ∧
      (r13 = (-102) →
        J_X5_append 128 τ13 (fun r15 τ15 =>
        ((¬ r15 = (-102) →
          J_L_refuses_b276 c2 0 τ15 Q) ∧
        (r15 = (-102) →
          J_X5_save 2 τ15 (fun r17 τ17 =>
          ((¬ r17 = (-101) →
            J_L_refuses_b276 c2 0 τ17 Q) ∧
          (r17 = (-101) →
            J_X5_restore 2 τ17 (fun r19 τ19 =>
            ((¬ r19 = (-101) →
              J_L_refuses_b276 c2 0 τ19 Q) ∧
            (r19 = (-101) →
              J_X5_isShut (-1) τ19 (fun r21 τ21 =>
              ((¬ r21 = (-101) →
                J_L_refuses_b276 c2 0 τ21 Q) ∧
              (r21 = (-101) →
                J_L_refuses_b276 c2 1 τ21 Q)))))))))))))))))))))))
def J_L_refuses_b93   (c2 : Int64) (t0 : Int32) (τ : Mem) (Q : Int32 → Mem → Prop) : Prop :=
((t0 = 0 →
  J_L_refuses_b187 c2 0 τ Q) ∧
(¬ t0 = 0 →
  J_X5_setField 0 1 5 5 τ (fun r23 τ23 =>
  ((¬ r23 = (-102) →
    J_L_refuses_b187 c2 0 τ23 Q) ∧
  (r23 = (-102) →
    J_X5_setPond 0 501 0 τ23 (fun r25 τ25 =>
    ((¬ r25 = (-102) →
      J_L_refuses_b187 c2 0 τ25 Q) ∧
    (r25 = (-102) →
      J_X5_setTurn 0 25 τ25 (fun r27 τ27 =>
      ((¬ r27 = (-102) →
        J_L_refuses_b187 c2 0 τ27 Q) ∧
      (r27 = (-102) →
        J_X5_setSupply 3 3 1 τ27 (fun r29 τ29 =>
        ((¬ r29 = (-102) →
          J_L_refuses_b187 c2 0 τ29 Q) ∧
        (r29 = (-102) →
          J_X5_setRule 3 τ29 (fun r31 τ31 =>
          ((¬ r31 = (-102) →
            J_L_refuses_b187 c2 0 τ31 Q) ∧
          (r31 = (-102) →
            J_X5_setFutile 101 τ31 (fun r33 τ33 =>
            ((¬ r33 = (-102) →
              J_L_refuses_b187 c2 0 τ33 Q) ∧
            (r33 = (-102) →
              J_X5_advance 0 τ33 (fun r35 τ35 =>
              ((¬ r35 = (-102) →
                J_L_refuses_b187 c2 0 τ35 Q) ∧
              (r35 = (-102) →
                J_L_refuses_b187 c2 1 τ35 Q)))))))))))))))))))))))
def J_L_refuses (σ : Mem) (Q : Int32 → Mem → Prop) : Prop :=
J_X5_checksum  σ (fun r1 τ1 =>
J_X5_addDitch (τ1 (18, 0, 0) 0) 1 0 τ1 (fun r2 τ2 =>
((¬ r2 = (-101) →
  J_L_refuses_b93 r1 0 τ2 Q) ∧
(r2 = (-101) →
  J_X5_addDitch 0 201 0 τ2 (fun r37 τ37 =>
  ((¬ r37 = (-102) →
    J_L_refuses_b93 r1 0 τ37 Q) ∧
  (r37 = (-102) →
    J_X5_setDitch 0 1 51 τ37 (fun r39 τ39 =>
    ((¬ r39 = (-102) →
      J_L_refuses_b93 r1 0 τ39 Q) ∧
    (r39 = (-102) →
      J_X5_addUser (-1) 1900 1 τ39 (fun r41 τ41 =>
      ((¬ r41 = (-101) →
        J_L_refuses_b93 r1 0 τ41 Q) ∧
      (r41 = (-101) →
        J_X5_addUser 0 1799 1 τ41 (fun r43 τ43 =>
        ((¬ r43 = (-102) →
          J_L_refuses_b93 r1 0 τ43 Q) ∧
        (r43 = (-102) →
          J_X5_setField 0 61 0 1 τ43 (fun r45 τ45 =>
          ((¬ r45 = (-102) →
            J_L_refuses_b93 r1 0 τ45 Q) ∧
          (r45 = (-102) →
            J_L_refuses_b93 r1 1 τ45 Q)))))))))))))))))))
def J_L_law_b411 (L : Nat) (xs : Nat → Int32)  (c10 : Int64) (t0 : Int32) (τ : Mem) (Q : Int32 → Mem → Prop) : Prop :=
((t0 = 0 →
  Q 0 τ) ∧
(¬ t0 = 0 →
  J_X5_checksum  τ (fun r13 τ13 =>
  ((¬ (lg_cmp r13 c10) = 0 →
    Q 0 τ13) ∧
  ((lg_cmp r13 c10) = 0 →
    Q 1 τ13)))))
def J_L_law_b335 (L : Nat) (xs : Nat → Int32)  (t0 : Int32) (τ : Mem) (Q : Int32 → Mem → Prop) : Prop :=
J_X5_checksum  τ (fun r10 τ10 =>
((t0 = 0 →
  J_L_law_b411 L xs r10 0 τ10 Q) ∧
(¬ t0 = 0 →
  J_X5_save 0 τ10 (fun r15 τ15 =>
  ((¬ r15 = 8 →
    J_L_law_b411 L xs r10 0 τ15 Q) ∧
  (r15 = 8 →
    J_X5_advance 5 τ15 (fun r17 τ17 =>
    ((r17 < 0 →
      J_L_law_b411 L xs r10 0 τ17 Q) ∧
    (¬ r17 < 0 →
      J_L_sound  τ17 (fun r19 τ19 =>
      ((r19 = 0 →
        J_L_law_b411 L xs r10 0 τ19 Q) ∧
      (¬ r19 = 0 →
        J_X5_account 0 τ19 (fun r21 τ21 =>
        J_X5_account 2 τ21 (fun r22 τ22 =>
        J_X5_account 3 τ22 (fun r23 τ23 =>
        ((¬ r21 = (r22 + r23) →
          J_L_law_b411 L xs r10 0 τ23 Q) ∧
        (r21 = (r22 + r23) →
          J_X5_restore 0 τ23 (fun r25 τ25 =>
          ((¬ r25 = 8 →
            J_L_law_b411 L xs r10 0 τ25 Q) ∧
          (r25 = 8 →
            J_L_law_b411 L xs r10 1 τ25 Q))))))))))))))))))))
def J_L_law_b289 (L : Nat) (xs : Nat → Int32)  (b5 : Int32) (b8 : Int32) (τ : Mem) (Q : Int32 → Mem → Prop) : Prop :=
((b5 = 0 →
  J_L_law_b335 L xs 0 τ Q) ∧
(¬ b5 = 0 →
  J_X5_setRule 2 τ (fun r27 τ27 =>
  ((¬ r27 = 1 →
    J_L_law_b335 L xs 0 τ27 Q) ∧
  (r27 = 1 →
    J_L_sound  τ27 (fun r29 τ29 =>
    ((r29 = 0 →
      J_L_law_b335 L xs 0 τ29 Q) ∧
    (¬ r29 = 0 →
      J_X5_settle  τ29 (fun r31 τ31 =>
      ((r31 < 0 →
        J_L_law_b335 L xs 0 τ31 Q) ∧
      (¬ r31 < 0 →
        ((¬ b8 = (τ31 (18, 0, 0) 3) →
          J_L_law_b335 L xs 0 τ31 Q) ∧
        (b8 = (τ31 (18, 0, 0) 3) →
          J_L_law_b335 L xs 1 τ31 Q)))))))))))))
def J_L_law_b253 (L : Nat) (xs : Nat → Int32) (b7 : Int32) (r6 : Int32) (K174 : Int32 → Int32 → Int32 → Mem → Prop) (b10 : Int32) (b11 : Int32) (τ : Mem) (Q : Int32 → Mem → Prop) : Prop :=
J_X5_advance 1 τ (fun r45 τ45 =>
((r45 < 0 →
  ∀ x10_47 : Int32, x10_47 = b10 + 1 →
  K174 0 b11 x10_47 τ45) ∧
(¬ r45 < 0 →
  J_X5_time  τ45 (fun r48 τ48 =>
  ((¬ r48 = (b10 + 1) →
    ∀ x10_50 : Int32, x10_50 = b10 + 1 →
    K174 0 b11 x10_50 τ48) ∧
  (r48 = (b10 + 1) →
    ∀ x10_51 : Int32, x10_51 = b10 + 1 →
    K174 1 b11 x10_51 τ48))))))
def J_L_law_b232 (L : Nat) (xs : Nat → Int32) (b7 : Int32) (r6 : Int32) (K174 : Int32 → Int32 → Int32 → Mem → Prop) (b9 : Int32) (b10 : Int32) (b11 : Int32) (τ : Mem) (Q : Int32 → Mem → Prop) : Prop :=
((b7 = 0 →
  J_L_law_b253 L xs b7 r6 (fun z0 z1 z2 z3 => K174 z0 z1 z2 z3) b10 b11 τ Q) ∧
(¬ b7 = 0 →
  J_X5_time  τ (fun r52 τ52 =>
  ((b7 ≤ r52 →
    J_L_law_b253 L xs b7 r6 (fun z0 z1 z2 z3 => K174 z0 z1 z2 z3) b10 b11 τ52 Q) ∧
  (¬ b7 ≤ r52 →
    ((b11 < b9 →
      ∀ x10_55 : Int32, x10_55 = b10 + 1 →
      K174 0 b11 x10_55 τ52) ∧
    (¬ b11 < b9 →
      J_L_law_b253 L xs b7 r6 (fun z0 z1 z2 z3 => K174 z0 z1 z2 z3) b10 b11 τ52 Q)))))))
def J_L_law_b161 (L : Nat) (xs : Nat → Int32)  (b5 : Int32) (b7 : Int32) (τ : Mem) (Q : Int32 → Mem → Prop) : Prop :=
J_X5_setRule 1 τ (fun r6 τ6 =>
∃ (I174 : Int32 → Int32 → Int32 → Mem → Prop) (μ174 : Int32 → Int32 → Int32 → Mem → Nat), I174 b5 (-1) 0 τ6 ∧ ∀ (x5_7 : Int32) (x9_7 : Int32) (x10_7 : Int32) (τ7 : Mem), I174 x5_7 x9_7 x10_7 τ7 →
  ((8 ≤ x10_7 →
    J_L_law_b289 L xs x5_7 r6 τ7 Q) ∧
  (¬ 8 ≤ x10_7 →
    ((x5_7 = 0 →
      J_L_law_b289 L xs x5_7 r6 τ7 Q) ∧
    (¬ x5_7 = 0 →
      J_X5_turn  τ7 (fun r35 τ35 =>
      J_L_sound  τ35 (fun r36 τ36 =>
      ((r36 = 0 →
        ∀ x10_38 : Int32, x10_38 = x10_7 + 1 →
        I174 0 r35 x10_38 τ36 ∧ μ174 0 r35 x10_38 τ36 < μ174 x5_7 x9_7 x10_7 τ7) ∧
      (¬ r36 = 0 →
        ((¬ b7 = 0 →
          ((r35 < 0 →
            ∀ x10_41 : Int32, x10_41 = x10_7 + 1 →
            I174 0 r35 x10_41 τ36 ∧ μ174 0 r35 x10_41 τ36 < μ174 x5_7 x9_7 x10_7 τ7) ∧
          (¬ r35 < 0 →
            (((τ36 (18, 0, 0) 1) ≤ r35 →
              ∀ x10_43 : Int32, x10_43 = x10_7 + 1 →
              I174 0 r35 x10_43 τ36 ∧ μ174 0 r35 x10_43 τ36 < μ174 x5_7 x9_7 x10_7 τ7) ∧
            (¬ (τ36 (18, 0, 0) 1) ≤ r35 →
              J_L_law_b232 L xs b7 r6 (fun z0 z1 z2 z3 => I174 z0 z1 z2 z3 ∧ μ174 z0 z1 z2 z3 < μ174 x5_7 x9_7 x10_7 τ7) x9_7 x10_7 r35 τ36 Q))))) ∧
        (b7 = 0 →
          ((¬ r35 = (-105) →
            ∀ x10_57 : Int32, x10_57 = x10_7 + 1 →
            I174 0 r35 x10_57 τ36 ∧ μ174 0 r35 x10_57 τ36 < μ174 x5_7 x9_7 x10_7 τ7) ∧
          (r35 = (-105) →
            J_L_law_b232 L xs b7 r6 (fun z0 z1 z2 z3 => I174 z0 z1 z2 z3 ∧ μ174 z0 z1 z2 z3 < μ174 x5_7 x9_7 x10_7 τ7) x9_7 x10_7 r35 τ36 Q)))))))))))))
def J_L_law_b89 (L : Nat) (xs : Nat → Int32)  (t0 : Int32) (τ : Mem) (Q : Int32 → Mem → Prop) : Prop :=
J_L_cell L xs 11 τ (fun r3 τ3 =>
∃ (I105 : Int32 → Int32 → Int32 → Mem → Prop) (μ105 : Int32 → Int32 → Int32 → Mem → Nat), I105 t0 0 0 τ3 ∧ ∀ (x5_4 : Int32) (x7_4 : Int32) (x8_4 : Int32) (τ4 : Mem), I105 x5_4 x7_4 x8_4 τ4 →
  (((τ4 (18, 0, 0) 1) ≤ x8_4 →
    J_L_law_b161 L xs x5_4 x7_4 τ4 Q) ∧
  (¬ (τ4 (18, 0, 0) 1) ≤ x8_4 →
    ((x5_4 = 0 →
      J_L_law_b161 L xs x5_4 x7_4 τ4 Q) ∧
    (¬ x5_4 = 0 →
      ∀ x9_59 : Int32, x9_59 = (r3 >>> (((2 * x8_4) : Int32) &&& 31) : Int32) - (r3 >>> (((2 * x8_4) : Int32) &&& 31) : Int32) / 4 * 4 →
      ∀ x7_60 : Int32, x7_60 = x7_4 + x9_59 →
      J_X5_setTurn x8_4 x9_59 τ4 (fun r61 τ61 =>
      ((¬ r61 = 0 →
        ∀ x8_63 : Int32, x8_63 = x8_4 + 1 →
        I105 0 x7_60 x8_63 τ61 ∧ μ105 0 x7_60 x8_63 τ61 < μ105 x5_4 x7_4 x8_4 τ4) ∧
      (r61 = 0 →
        ∀ x8_64 : Int32, x8_64 = x8_4 + 1 →
        I105 1 x7_60 x8_64 τ61 ∧ μ105 1 x7_60 x8_64 τ61 < μ105 x5_4 x7_4 x8_4 τ4))))))))
def J_L_law (L : Nat) (xs : Nat → Int32) (σ : Mem) (Q : Int32 → Mem → Prop) : Prop :=
J_X5_restore 1 σ (fun r1 τ1 =>
((¬ r1 = (-103) →
  J_L_law_b89 L xs 0 τ1 Q) ∧
(r1 = (-103) →
  J_X5_turn  τ1 (fun r65 τ65 =>
  ((¬ r65 = (-105) →
    J_L_law_b89 L xs 0 τ65 Q) ∧
  (r65 = (-105) →
    J_L_builds L xs 0 τ65 (fun r67 τ67 =>
    ((r67 = 0 →
      J_L_law_b89 L xs 0 τ67 Q) ∧
    (¬ r67 = 0 →
      J_L_sound  τ67 (fun r69 τ69 =>
      ((r69 = 0 →
        J_L_law_b89 L xs 0 τ69 Q) ∧
      (¬ r69 = 0 →
        J_L_eldest  τ69 (fun r71 τ71 =>
        ((r71 = 0 →
          J_L_law_b89 L xs 0 τ71 Q) ∧
        (¬ r71 = 0 →
          J_L_refuses  τ71 (fun r73 τ73 =>
          ((r73 = 0 →
            J_L_law_b89 L xs 0 τ73 Q) ∧
          (¬ r73 = 0 →
            J_L_law_b89 L xs 1 τ73 Q))))))))))))))))))
