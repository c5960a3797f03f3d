/-! PART 04 (written by wip/p41/gen_world.py): the cells of the class and of the reference; constants -/
def tysX (tc : Nat → ClassId) : List (ClassId × FieldType) := [(tc 0, .int), (tc 1, .boolean), (tc 2, .char), (tc 3, .object RX0), (tc 4, .object RX4), (tc 5, .object RX2)]
def ceX (tc : Nat → ClassId) (ad : Oid → Nat) : Cel := fun o f => match o.1 with
  | 0 => .inr (5, [.ref (ad (7, 0, 0)), .ref (ad (7, 1, 0)), .ref (ad (1, 0, 0)), .ref (ad (2, 0, 0)), .ref (ad (3, 0, 0)), .ref (ad (5, 0, 0))])
  | 1 => .inl (tc 5, 2, .inr (.inr (.inr (.inr (fun i => some (ad (7, 2 + i, 0)))))))
  | 2 => .inl (tc 1, 2, .inl f)
  | 3 => .inr (1, [.ref (ad (4, 0, 0)), .ref (ad (4, 1, 0)), .ref (ad (15, 0, 0)), .ref (ad (15, 1, 0)), .ref (ad (15, 2, 0)), .int (f 5)])
  | 4 => .inl (tc 0, 12, .inl f)
  | 5 => .inr (3, [.int (f 0), .int (f 1), .int (f 2), .ref (ad (6, 0, 0)), .int (f 4)])
  | 6 => .inl (tc 2, 100, .inl f)
  | 7 => .inr (2, [.ref (ad (8, o.2.1, 0)), .ref (ad (9, o.2.1, 0)), .ref (ad (10, o.2.1, 0)), .ref (ad (11, o.2.1, 0)), .ref (ad (12, o.2.1, 0)), .int (f 5), .int (f 6), .int (f 7), .int (f 8), .int (f 9)])
  | 8 => .inl (tc 3, 10, .inr (.inr (.inr (.inr (fun i => some (ad (13, o.2.1, i)))))))
  | 9 => .inl (tc 4, 12, .inr (.inr (.inr (.inr (fun i => some (ad (14, o.2.1, i)))))))
  | 10 => .inl (tc 0, 12, .inl f)
  | 11 => .inl (tc 0, 24, .inl f)
  | 12 => .inl (tc 0, 7, .inl f)
  | 13 => .inr (0, [.int (f 0), .int (f 1), .int (f 2)])
  | 14 => .inr (4, [.int (f 0), .int (f 1), .int (f 2), .int (f 3), .int (f 4), .int (f 5), .int (f 6), .int (f 7), .int (f 8), .int (f 9), .int (f 10), .int (f 11)])
  | 15 => .inl (tc 0, 10, .inl f)
  | 16 => .inl (tc 0, 32, .inl f)
  | 17 => .inl (tc 0, 64, .inl f)
  | _ => .inl (tc 0, 4, .inl f)
def idsS (j : Nat) : List Oid := [(7, j, 0), (8, j, 0), (9, j, 0), (10, j, 0), (11, j, 0), (12, j, 0)] ++ ((List.range 10).map (fun i => ((13, j, i) : Oid)) ++ (List.range 12).map (fun i => ((14, j, i) : Oid)))
def idsX0 : List Oid := [(0, 0, 0), (1, 0, 0), (2, 0, 0), (3, 0, 0), (4, 0, 0), (4, 1, 0), (5, 0, 0), (6, 0, 0), (15, 0, 0), (15, 1, 0), (15, 2, 0)] ++ (List.range 4).flatMap idsS
def idsX : List Oid := idsX0 ++ [((16, 0, 0) : Oid), (17, 0, 0), (18, 0, 0)]
theorem okX_16_0 : ((16, 0, 0) : Oid) ∈ idsX := List.mem_append_right _ (by decide +kernel)
theorem okX_17_0 : ((17, 0, 0) : Oid) ∈ idsX := List.mem_append_right _ (by decide +kernel)
theorem okX_18_0 : ((18, 0, 0) : Oid) ∈ idsX := List.mem_append_right _ (by decide +kernel)
theorem okX_0_0 : ((0, 0, 0) : Oid) ∈ idsX := List.mem_append_left _ (List.mem_append_left _ (by decide +kernel))
theorem okX_1_0 : ((1, 0, 0) : Oid) ∈ idsX := List.mem_append_left _ (List.mem_append_left _ (by decide +kernel))
theorem okX_2_0 : ((2, 0, 0) : Oid) ∈ idsX := List.mem_append_left _ (List.mem_append_left _ (by decide +kernel))
theorem okX_3_0 : ((3, 0, 0) : Oid) ∈ idsX := List.mem_append_left _ (List.mem_append_left _ (by decide +kernel))
theorem okX_4_0 : ((4, 0, 0) : Oid) ∈ idsX := List.mem_append_left _ (List.mem_append_left _ (by decide +kernel))
theorem okX_4_1 : ((4, 1, 0) : Oid) ∈ idsX := List.mem_append_left _ (List.mem_append_left _ (by decide +kernel))
theorem okX_5_0 : ((5, 0, 0) : Oid) ∈ idsX := List.mem_append_left _ (List.mem_append_left _ (by decide +kernel))
theorem okX_6_0 : ((6, 0, 0) : Oid) ∈ idsX := List.mem_append_left _ (List.mem_append_left _ (by decide +kernel))
theorem okX_15_0 : ((15, 0, 0) : Oid) ∈ idsX := List.mem_append_left _ (List.mem_append_left _ (by decide +kernel))
theorem okX_15_1 : ((15, 1, 0) : Oid) ∈ idsX := List.mem_append_left _ (List.mem_append_left _ (by decide +kernel))
theorem okX_15_2 : ((15, 2, 0) : Oid) ∈ idsX := List.mem_append_left _ (List.mem_append_left _ (by decide +kernel))
theorem okS {j : Nat} {o : Oid} (h : j < 4) (ho : o ∈ idsS j) : o ∈ idsX := List.mem_append_left _ (List.mem_append_right _ (List.mem_flatMap.mpr ⟨j, List.mem_range.mpr h, ho⟩))
theorem ok7 {j : Nat} (h : j < 4) : ((7, j, 0) : Oid) ∈ idsX := okS h (by simp [idsS])
theorem ok8 {j : Nat} (h : j < 4) : ((8, j, 0) : Oid) ∈ idsX := okS h (by simp [idsS])
theorem ok9 {j : Nat} (h : j < 4) : ((9, j, 0) : Oid) ∈ idsX := okS h (by simp [idsS])
theorem ok10 {j : Nat} (h : j < 4) : ((10, j, 0) : Oid) ∈ idsX := okS h (by simp [idsS])
theorem ok11 {j : Nat} (h : j < 4) : ((11, j, 0) : Oid) ∈ idsX := okS h (by simp [idsS])
theorem ok12 {j : Nat} (h : j < 4) : ((12, j, 0) : Oid) ∈ idsX := okS h (by simp [idsS])
theorem ok13 {j i : Nat} (h : j < 4) (hi : i < 10) : ((13, j, i) : Oid) ∈ idsX := okS h (by simp [idsS, hi])
theorem ok14 {j i : Nat} (h : j < 4) (hi : i < 12) : ((14, j, i) : Oid) ∈ idsX := okS h (by simp [idsS, hi])
theorem ok2 {i : Nat} (h : i < 2) : 2 + i < 4 := by omega
theorem cb_m105 : (Int8.ofInt (-105)).toInt32 = (-105 : Int32) := by decide +kernel
theorem cb_m104 : (Int8.ofInt (-104)).toInt32 = (-104 : Int32) := by decide +kernel
theorem cb_m103 : (Int8.ofInt (-103)).toInt32 = (-103 : Int32) := by decide +kernel
theorem cb_m102 : (Int8.ofInt (-102)).toInt32 = (-102 : Int32) := by decide +kernel
theorem cb_m101 : (Int8.ofInt (-101)).toInt32 = (-101 : Int32) := by decide +kernel
theorem cb_6 : (Int8.ofInt 6).toInt32 = (6 : Int32) := by decide +kernel
theorem cb_7 : (Int8.ofInt 7).toInt32 = (7 : Int32) := by decide +kernel
theorem cb_8 : (Int8.ofInt 8).toInt32 = (8 : Int32) := by decide +kernel
theorem cb_9 : (Int8.ofInt 9).toInt32 = (9 : Int32) := by decide +kernel
theorem cb_10 : (Int8.ofInt 10).toInt32 = (10 : Int32) := by decide +kernel
theorem cb_11 : (Int8.ofInt 11).toInt32 = (11 : Int32) := by decide +kernel
theorem cb_12 : (Int8.ofInt 12).toInt32 = (12 : Int32) := by decide +kernel
theorem cb_13 : (Int8.ofInt 13).toInt32 = (13 : Int32) := by decide +kernel
theorem cb_14 : (Int8.ofInt 14).toInt32 = (14 : Int32) := by decide +kernel
theorem cb_15 : (Int8.ofInt 15).toInt32 = (15 : Int32) := by decide +kernel
theorem cb_19 : (Int8.ofInt 19).toInt32 = (19 : Int32) := by decide +kernel
theorem cb_20 : (Int8.ofInt 20).toInt32 = (20 : Int32) := by decide +kernel
theorem cb_21 : (Int8.ofInt 21).toInt32 = (21 : Int32) := by decide +kernel
theorem cb_22 : (Int8.ofInt 22).toInt32 = (22 : Int32) := by decide +kernel
theorem cb_23 : (Int8.ofInt 23).toInt32 = (23 : Int32) := by decide +kernel
theorem cb_24 : (Int8.ofInt 24).toInt32 = (24 : Int32) := by decide +kernel
theorem cb_25 : (Int8.ofInt 25).toInt32 = (25 : Int32) := by decide +kernel
theorem cb_30 : (Int8.ofInt 30).toInt32 = (30 : Int32) := by decide +kernel
theorem cb_40 : (Int8.ofInt 40).toInt32 = (40 : Int32) := by decide +kernel
theorem cb_48 : (Int8.ofInt 48).toInt32 = (48 : Int32) := by decide +kernel
theorem cb_50 : (Int8.ofInt 50).toInt32 = (50 : Int32) := by decide +kernel
theorem cb_51 : (Int8.ofInt 51).toInt32 = (51 : Int32) := by decide +kernel
theorem cb_60 : (Int8.ofInt 60).toInt32 = (60 : Int32) := by decide +kernel
theorem cb_61 : (Int8.ofInt 61).toInt32 = (61 : Int32) := by decide +kernel
theorem cb_64 : (Int8.ofInt 64).toInt32 = (64 : Int32) := by decide +kernel
theorem cb_80 : (Int8.ofInt 80).toInt32 = (80 : Int32) := by decide +kernel
theorem cb_99 : (Int8.ofInt 99).toInt32 = (99 : Int32) := by decide +kernel
theorem cb_100 : (Int8.ofInt 100).toInt32 = (100 : Int32) := by decide +kernel
theorem cb_101 : (Int8.ofInt 101).toInt32 = (101 : Int32) := by decide +kernel
theorem cb_120 : (Int8.ofInt 120).toInt32 = (120 : Int32) := by decide +kernel
theorem cb_127 : (Int8.ofInt 127).toInt32 = (127 : Int32) := by decide +kernel
theorem ci_m1 : Int32.ofInt (-1) = (-1 : Int32) := by decide +kernel
theorem ci_0 : Int32.ofInt 0 = (0 : Int32) := by decide +kernel
theorem ci_1 : Int32.ofInt 1 = (1 : Int32) := by decide +kernel
theorem ci_2 : Int32.ofInt 2 = (2 : Int32) := by decide +kernel
theorem ci_3 : Int32.ofInt 3 = (3 : Int32) := by decide +kernel
theorem ci_4 : Int32.ofInt 4 = (4 : Int32) := by decide +kernel
theorem ci_5 : Int32.ofInt 5 = (5 : Int32) := by decide +kernel
theorem cs_128 : (Int16.ofInt 128).toInt32 = (128 : Int32) := by decide +kernel
theorem cs_150 : (Int16.ofInt 150).toInt32 = (150 : Int32) := by decide +kernel
theorem cs_200 : (Int16.ofInt 200).toInt32 = (200 : Int32) := by decide +kernel
theorem cs_201 : (Int16.ofInt 201).toInt32 = (201 : Int32) := by decide +kernel
theorem cs_251 : (Int16.ofInt 251).toInt32 = (251 : Int32) := by decide +kernel
theorem cs_500 : (Int16.ofInt 500).toInt32 = (500 : Int32) := by decide +kernel
theorem cs_501 : (Int16.ofInt 501).toInt32 = (501 : Int32) := by decide +kernel
theorem cs_1799 : (Int16.ofInt 1799).toInt32 = (1799 : Int32) := by decide +kernel
theorem cs_1800 : (Int16.ofInt 1800).toInt32 = (1800 : Int32) := by decide +kernel
theorem cs_1880 : (Int16.ofInt 1880).toInt32 = (1880 : Int32) := by decide +kernel
theorem cs_1900 : (Int16.ofInt 1900).toInt32 = (1900 : Int32) := by decide +kernel
theorem cs_2099 : (Int16.ofInt 2099).toInt32 = (2099 : Int32) := by decide +kernel
theorem ix_0 : (0 : Int32).toNatClampNeg = 0 := by decide +kernel
theorem vpc_0_4 : vp_in (0 : Int32) 4 := by unfold vp_in; decide +kernel
theorem vpc_0_7 : vp_in (0 : Int32) 7 := by unfold vp_in; decide +kernel
theorem vpc_0_10 : vp_in (0 : Int32) 10 := by unfold vp_in; decide +kernel
theorem vpc_0_32 : vp_in (0 : Int32) 32 := by unfold vp_in; decide +kernel
theorem ix_1 : (1 : Int32).toNatClampNeg = 1 := by decide +kernel
theorem vpc_1_4 : vp_in (1 : Int32) 4 := by unfold vp_in; decide +kernel
theorem vpc_1_7 : vp_in (1 : Int32) 7 := by unfold vp_in; decide +kernel
theorem vpc_1_32 : vp_in (1 : Int32) 32 := by unfold vp_in; decide +kernel
theorem ix_2 : (2 : Int32).toNatClampNeg = 2 := by decide +kernel
theorem vpc_2_4 : vp_in (2 : Int32) 4 := by unfold vp_in; decide +kernel
theorem vpc_2_7 : vp_in (2 : Int32) 7 := by unfold vp_in; decide +kernel
theorem vpc_2_32 : vp_in (2 : Int32) 32 := by unfold vp_in; decide +kernel
theorem ix_3 : (3 : Int32).toNatClampNeg = 3 := by decide +kernel
theorem vpc_3_4 : vp_in (3 : Int32) 4 := by unfold vp_in; decide +kernel
theorem vpc_3_7 : vp_in (3 : Int32) 7 := by unfold vp_in; decide +kernel
theorem ix_4 : (4 : Int32).toNatClampNeg = 4 := by decide +kernel
theorem vpc_4_7 : vp_in (4 : Int32) 7 := by unfold vp_in; decide +kernel
theorem ix_5 : (5 : Int32).toNatClampNeg = 5 := by decide +kernel
theorem vpc_5_7 : vp_in (5 : Int32) 7 := by unfold vp_in; decide +kernel
theorem ix_6 : (6 : Int32).toNatClampNeg = 6 := by decide +kernel
theorem vpc_6_7 : vp_in (6 : Int32) 7 := by unfold vp_in; decide +kernel

