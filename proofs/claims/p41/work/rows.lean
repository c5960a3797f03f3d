section
-- ===== PART A: goes FIRST, ahead of the names: the tables' words, and 'selects' of the private methods out of them =====
/-- a private method of a class that the tables say can be made, by its rows of tables_1 -/
def lw_okq (q : MethodName × Nat) : Prop := (q.1.cls ≠ "java/lang/invoke/MethodHandle" ∧ q.1.cls ≠ "java/lang/invoke/VarHandle") ∧ Cond.instantiable q.1.cls q.2 ∈ tables_1 ∧ Cond.privateMethod q.1 ∈ tables_1 ∧ Cond.instanceMethod q.1 ∈ tables_1
theorem lw_p0 : lw_okq (⟨"IrrigationDistrict$Flow", "giveGreatestShares", "(LIrrigationDistrict$State;)V"⟩, 6) := ⟨⟨by decide +kernel, by decide +kernel⟩, List.mem_of_getElem? (i := 176) (by decide +kernel), List.mem_of_getElem? (i := 314) (by decide +kernel), List.mem_of_getElem? (i := 315) (by decide +kernel)⟩
theorem lw_p1 : lw_okq (⟨"IrrigationDistrict$Flow", "giveShares", "(LIrrigationDistrict$State;I)V"⟩, 6) := ⟨⟨by decide +kernel, by decide +kernel⟩, List.mem_of_getElem? (i := 176) (by decide +kernel), List.mem_of_getElem? (i := 318) (by decide +kernel), List.mem_of_getElem? (i := 319) (by decide +kernel)⟩
theorem lw_p2 : lw_okq (⟨"IrrigationDistrict$Flow", "spread", "(LIrrigationDistrict$State;)V"⟩, 6) := ⟨⟨by decide +kernel, by decide +kernel⟩, List.mem_of_getElem? (i := 176) (by decide +kernel), List.mem_of_getElem? (i := 322) (by decide +kernel), List.mem_of_getElem? (i := 323) (by decide +kernel)⟩
theorem lw_p3 : lw_okq (⟨"IrrigationDistrict$Flow", "isPossible", "(LIrrigationDistrict$State;)Z"⟩, 6) := ⟨⟨by decide +kernel, by decide +kernel⟩, List.mem_of_getElem? (i := 176) (by decide +kernel), List.mem_of_getElem? (i := 330) (by decide +kernel), List.mem_of_getElem? (i := 331) (by decide +kernel)⟩
theorem lw_p4 : lw_okq (⟨"IrrigationDistrict$Flow", "serve", "(LIrrigationDistrict$State;I)V"⟩, 6) := ⟨⟨by decide +kernel, by decide +kernel⟩, List.mem_of_getElem? (i := 176) (by decide +kernel), List.mem_of_getElem? (i := 335) (by decide +kernel), List.mem_of_getElem? (i := 336) (by decide +kernel)⟩
theorem lw_p5 : lw_okq (⟨"IrrigationDistrict$Flow", "mostFor", "(LIrrigationDistrict$State;I)I"⟩, 6) := ⟨⟨by decide +kernel, by decide +kernel⟩, List.mem_of_getElem? (i := 176) (by decide +kernel), List.mem_of_getElem? (i := 339) (by decide +kernel), List.mem_of_getElem? (i := 340) (by decide +kernel)⟩
theorem lw_p6 : lw_okq (⟨"IrrigationDistrict$State", "useWater", "(LIrrigationDistrict$User;I)V"⟩, 10) := ⟨⟨by decide +kernel, by decide +kernel⟩, List.mem_of_getElem? (i := 17) (by decide +kernel), List.mem_of_getElem? (i := 353) (by decide +kernel), List.mem_of_getElem? (i := 354) (by decide +kernel)⟩
theorem lw_p7 : lw_okq (⟨"IrrigationDistrict", "judge", "(II)I"⟩, 6) := ⟨⟨by decide +kernel, by decide +kernel⟩, List.mem_of_getElem? (i := 9) (by decide +kernel), List.mem_of_getElem? (i := 365) (by decide +kernel), List.mem_of_getElem? (i := 366) (by decide +kernel)⟩
theorem lw_p8 : lw_okq (⟨"IrrigationDistrict", "gainOf", "(II)I"⟩, 6) := ⟨⟨by decide +kernel, by decide +kernel⟩, List.mem_of_getElem? (i := 9) (by decide +kernel), List.mem_of_getElem? (i := 374) (by decide +kernel), List.mem_of_getElem? (i := 375) (by decide +kernel)⟩
theorem lw_p9 : lw_okq (⟨"IrrigationDistrict", "withUser", "(JI)J"⟩, 6) := ⟨⟨by decide +kernel, by decide +kernel⟩, List.mem_of_getElem? (i := 9) (by decide +kernel), List.mem_of_getElem? (i := 405) (by decide +kernel), List.mem_of_getElem? (i := 406) (by decide +kernel)⟩
theorem lw_p10 : lw_okq (⟨"IrrigationDistrict", "unitsGotInTrial", "(II)I"⟩, 6) := ⟨⟨by decide +kernel, by decide +kernel⟩, List.mem_of_getElem? (i := 9) (by decide +kernel), List.mem_of_getElem? (i := 512) (by decide +kernel), List.mem_of_getElem? (i := 513) (by decide +kernel)⟩
def lw_privs_1 : List (MethodName × Nat) := [(⟨"IrrigationDistrict$Flow", "giveGreatestShares", "(LIrrigationDistrict$State;)V"⟩, 6), (⟨"IrrigationDistrict$Flow", "giveShares", "(LIrrigationDistrict$State;I)V"⟩, 6), (⟨"IrrigationDistrict$Flow", "spread", "(LIrrigationDistrict$State;)V"⟩, 6), (⟨"IrrigationDistrict$Flow", "isPossible", "(LIrrigationDistrict$State;)Z"⟩, 6), (⟨"IrrigationDistrict$Flow", "serve", "(LIrrigationDistrict$State;I)V"⟩, 6), (⟨"IrrigationDistrict$Flow", "mostFor", "(LIrrigationDistrict$State;I)I"⟩, 6), (⟨"IrrigationDistrict$State", "useWater", "(LIrrigationDistrict$User;I)V"⟩, 10), (⟨"IrrigationDistrict", "judge", "(II)I"⟩, 6), (⟨"IrrigationDistrict", "gainOf", "(II)I"⟩, 6), (⟨"IrrigationDistrict", "withUser", "(JI)J"⟩, 6), (⟨"IrrigationDistrict", "unitsGotInTrial", "(II)I"⟩, 6)]
theorem lw_r1 : ∀ q ∈ lw_privs_1, lw_okq q := List.forall_mem_cons.mpr ⟨lw_p0, List.forall_mem_cons.mpr ⟨lw_p1, List.forall_mem_cons.mpr ⟨lw_p2, List.forall_mem_cons.mpr ⟨lw_p3, List.forall_mem_cons.mpr ⟨lw_p4, List.forall_mem_cons.mpr ⟨lw_p5, List.forall_mem_cons.mpr ⟨lw_p6, List.forall_mem_cons.mpr ⟨lw_p7, List.forall_mem_cons.mpr ⟨lw_p8, List.forall_mem_cons.mpr ⟨lw_p9, List.forall_mem_cons.mpr ⟨lw_p10, fun _ h => absurd h List.not_mem_nil⟩⟩⟩⟩⟩⟩⟩⟩⟩⟩⟩
def lw_privs : List (MethodName × Nat) := lw_privs_1
def lw_tbl : List Cond := k2_sels lw_privs ++ tables_1
theorem lw_privs_ok : ∀ q ∈ lw_privs, lw_okq q := lw_r1
end
section
/-! ===== BEGIN words of one list among another's, by their places ===== -/
theorem goodIn_r {big : List Cond} (ws : List Cond) (ps : List Nat) (hp : ws = ps.filterMap (fun i => big[i]?)) (h : ws.all goodWord = true) : GoodIn big ws := by
  intro w hw
  have h1 := List.all_eq_true.mp h w hw
  rw [hp] at hw
  obtain ⟨i, -, hi⟩ := List.mem_filterMap.mp hw
  have hm : w ∈ big := by first | exact List.mem_of_getElem? hi | exact List.getElem?_mem hi
  exact ⟨hm, good_of_word h1⟩
theorem goodIn_app {big a b : List Cond} (ha : GoodIn big a) (hb : GoodIn big b) : GoodIn big (a ++ b) := fun w h => (List.mem_append.mp h).elim (ha w) (hb w)
theorem goodIn_ca {big a b : List Cond} {c : Cond} (ha : GoodIn big (c :: a)) (hb : GoodIn big b) : GoodIn big (c :: (a ++ b)) := fun w h => (List.mem_cons.mp h).elim (fun e => ha w (List.mem_cons.mpr (Or.inl e))) (fun h => (List.mem_append.mp h).elim (fun h => ha w (List.mem_cons.mpr (Or.inr h))) (hb w))
theorem goodIn_sub {big ws : List Cond} (hm : ∀ w ∈ ws, w ∈ big) (h : ws.all goodWord = true) : GoodIn big ws := fun w hw => ⟨hm w hw, good_of_word (List.all_eq_true.mp h w hw)⟩
/-! ===== END ===== -/

/-! ===== BEGIN printed: names, fields, word lists, decode rows ===== -/
def RX0 : String := "IrrigationDistrict$Ditch"
def TX0 : u_T := fun k => match k with
  | 0 => ("IrrigationDistrict$Ditch", "parent", "I", false)
  | 1 => ("IrrigationDistrict$Ditch", "gate", "I", false)
  | _ => ("IrrigationDistrict$Ditch", "loss", "I", false)
def tyX0 : Nat → FieldType := fun k => match k with
  | 0 => .int
  | 1 => .int
  | _ => .int
abbrev wsX00 : List Cond := u_ws RX0 TX0 3
theorem nmX0 : ∀ a, a < 3 → ∀ b, b < 3 → a ≠ b → (TX0 a).2.1 ≠ (TX0 b).2.1 := by decide +kernel
theorem tyX0_ok : ∀ k, k < 3 → parseFieldDescriptor (TX0 k).2.2.1 = some (tyX0 k) := by decide +kernel
abbrev cX0_init : ByteArray := prog_2_method_1_code
def yX0_init : MethodName := ⟨RX0, "<init>", "()V"⟩
abbrev cX0_begin : ByteArray := prog_2_method_2_code
def yX0_begin : MethodName := ⟨RX0, "begin", "(III)V"⟩
abbrev cX0_passedOf : ByteArray := prog_2_method_3_code
def yX0_passedOf : MethodName := ⟨RX0, "passedOf", "(I)I"⟩
abbrev cX0_inflowFor : ByteArray := prog_2_method_4_code
def yX0_inflowFor : MethodName := ⟨RX0, "inflowFor", "(I)I"⟩
def RX1 : String := "IrrigationDistrict$Flow"
def TX1 : u_T := fun k => match k with
  | 0 => ("IrrigationDistrict$Flow", "asked", "[I", true)
  | 1 => ("IrrigationDistrict$Flow", "got", "[I", true)
  | 2 => ("IrrigationDistrict$Flow", "into", "[I", true)
  | 3 => ("IrrigationDistrict$Flow", "passed", "[I", true)
  | 4 => ("IrrigationDistrict$Flow", "most", "[I", true)
  | _ => ("IrrigationDistrict$Flow", "supply", "I", false)
def tyX1 : Nat → FieldType := fun k => match k with
  | 0 => .array .int
  | 1 => .array .int
  | 2 => .array .int
  | 3 => .array .int
  | 4 => .array .int
  | _ => .int
abbrev wsX10 : List Cond := u_ws RX1 TX1 6
theorem nmX1 : ∀ a, a < 6 → ∀ b, b < 6 → a ≠ b → (TX1 a).2.1 ≠ (TX1 b).2.1 := by decide +kernel
theorem tyX1_ok : ∀ k, k < 6 → parseFieldDescriptor (TX1 k).2.2.1 = some (tyX1 k) := by decide +kernel
abbrev cX1_init : ByteArray := prog_3_method_1_code
def yX1_init : MethodName := ⟨RX1, "<init>", "()V"⟩
abbrev cX1_distribute : ByteArray := prog_3_method_2_code
def yX1_distribute : MethodName := ⟨RX1, "distribute", "(LIrrigationDistrict$State;)V"⟩
abbrev cX1_isContent : ByteArray := prog_3_method_3_code
def yX1_isContent : MethodName := ⟨RX1, "isContent", "(I)Z"⟩
abbrev cX1_lostIn : ByteArray := prog_3_method_4_code
def yX1_lostIn : MethodName := ⟨RX1, "lostIn", "(I)I"⟩
abbrev cX1_unitsGot : ByteArray := prog_3_method_5_code
def yX1_unitsGot : MethodName := ⟨RX1, "unitsGot", "(LIrrigationDistrict$State;)I"⟩
abbrev cX1_ditchAgainstOneMore : ByteArray := prog_3_method_6_code
def yX1_ditchAgainstOneMore : MethodName := ⟨RX1, "ditchAgainstOneMore", "(LIrrigationDistrict$State;I)I"⟩
abbrev cX1_giveGreatestShares : ByteArray := prog_3_method_7_code
def yX1_giveGreatestShares : MethodName := ⟨RX1, "giveGreatestShares", "(LIrrigationDistrict$State;)V"⟩
abbrev cX1_isPossible : ByteArray := prog_3_method_8_code
def yX1_isPossible : MethodName := ⟨RX1, "isPossible", "(LIrrigationDistrict$State;)Z"⟩
abbrev cX1_giveShares : ByteArray := prog_3_method_9_code
def yX1_giveShares : MethodName := ⟨RX1, "giveShares", "(LIrrigationDistrict$State;I)V"⟩
abbrev cX1_spread : ByteArray := prog_3_method_10_code
def yX1_spread : MethodName := ⟨RX1, "spread", "(LIrrigationDistrict$State;)V"⟩
abbrev cX1_serve : ByteArray := prog_3_method_11_code
def yX1_serve : MethodName := ⟨RX1, "serve", "(LIrrigationDistrict$State;I)V"⟩
abbrev cX1_mostFor : ByteArray := prog_3_method_12_code
def yX1_mostFor : MethodName := ⟨RX1, "mostFor", "(LIrrigationDistrict$State;I)I"⟩
def RX2 : String := "IrrigationDistrict$State"
def TX2 : u_T := fun k => match k with
  | 0 => ("IrrigationDistrict$State", "ditch", "[LIrrigationDistrict$Ditch;", true)
  | 1 => ("IrrigationDistrict$State", "user", "[LIrrigationDistrict$User;", true)
  | 2 => ("IrrigationDistrict$State", "byAge", "[I", true)
  | 3 => ("IrrigationDistrict$State", "supply", "[I", true)
  | 4 => ("IrrigationDistrict$State", "sums", "[I", true)
  | 5 => ("IrrigationDistrict$State", "ditchCount", "I", false)
  | 6 => ("IrrigationDistrict$State", "userCount", "I", false)
  | 7 => ("IrrigationDistrict$State", "rule", "I", false)
  | 8 => ("IrrigationDistrict$State", "futilePercent", "I", false)
  | _ => ("IrrigationDistrict$State", "hoursPassed", "I", false)
def tyX2 : Nat → FieldType := fun k => match k with
  | 0 => .array (.object "IrrigationDistrict$Ditch")
  | 1 => .array (.object "IrrigationDistrict$User")
  | 2 => .array .int
  | 3 => .array .int
  | 4 => .array .int
  | 5 => .int
  | 6 => .int
  | 7 => .int
  | 8 => .int
  | _ => .int
abbrev wsX20 : List Cond := u_ws RX2 TX2 10
theorem nmX2 : ∀ a, a < 10 → ∀ b, b < 10 → a ≠ b → (TX2 a).2.1 ≠ (TX2 b).2.1 := by decide +kernel
theorem tyX2_ok : ∀ k, k < 10 → parseFieldDescriptor (TX2 k).2.2.1 = some (tyX2 k) := by decide +kernel
abbrev cX2_init : ByteArray := prog_4_method_1_code
def yX2_init : MethodName := ⟨RX2, "<init>", "()V"⟩
abbrev cX2_copyFrom : ByteArray := prog_4_method_2_code
def yX2_copyFrom : MethodName := ⟨RX2, "copyFrom", "(LIrrigationDistrict$State;)V"⟩
abbrev cX2_hasDitch : ByteArray := prog_4_method_3_code
def yX2_hasDitch : MethodName := ⟨RX2, "hasDitch", "(I)Z"⟩
abbrev cX2_hasUser : ByteArray := prog_4_method_4_code
def yX2_hasUser : MethodName := ⟨RX2, "hasUser", "(I)Z"⟩
abbrev cX2_hasRoomForDitch : ByteArray := prog_4_method_5_code
def yX2_hasRoomForDitch : MethodName := ⟨RX2, "hasRoomForDitch", "()Z"⟩
abbrev cX2_hasRoomForUser : ByteArray := prog_4_method_6_code
def yX2_hasRoomForUser : MethodName := ⟨RX2, "hasRoomForUser", "()Z"⟩
abbrev cX2_putDitch : ByteArray := prog_4_method_7_code
def yX2_putDitch : MethodName := ⟨RX2, "putDitch", "(III)V"⟩
abbrev cX2_putUser : ByteArray := prog_4_method_8_code
def yX2_putUser : MethodName := ⟨RX2, "putUser", "(III)V"⟩
abbrev cX2_putSupply : ByteArray := prog_4_method_9_code
def yX2_putSupply : MethodName := ⟨RX2, "putSupply", "(III)V"⟩
abbrev cX2_hourOfDay : ByteArray := prog_4_method_10_code
def yX2_hourOfDay : MethodName := ⟨RX2, "hourOfDay", "()I"⟩
abbrev cX2_supplyNow : ByteArray := prog_4_method_11_code
def yX2_supplyNow : MethodName := ⟨RX2, "supplyNow", "()I"⟩
abbrev cX2_isYounger : ByteArray := prog_4_method_12_code
def yX2_isYounger : MethodName := ⟨RX2, "isYounger", "(II)Z"⟩
abbrev cX2_userInTurn : ByteArray := prog_4_method_13_code
def yX2_userInTurn : MethodName := ⟨RX2, "userInTurn", "()I"⟩
abbrev cX2_unitsAsked : ByteArray := prog_4_method_14_code
def yX2_unitsAsked : MethodName := ⟨RX2, "unitsAsked", "(II)I"⟩
abbrev cX2_passHour : ByteArray := prog_4_method_15_code
def yX2_passHour : MethodName := ⟨RX2, "passHour", "(LIrrigationDistrict$Flow;)I"⟩
abbrev cX2_useWater : ByteArray := prog_4_method_16_code
def yX2_useWater : MethodName := ⟨RX2, "useWater", "(LIrrigationDistrict$User;I)V"⟩
def RX3 : String := "IrrigationDistrict$Text"
def TX3 : u_T := fun k => match k with
  | 0 => ("IrrigationDistrict$Text", "length", "I", false)
  | 1 => ("IrrigationDistrict$Text", "fault", "I", false)
  | 2 => ("IrrigationDistrict$Text", "orders", "I", false)
  | 3 => ("IrrigationDistrict$Text", "letters", "[C", true)
  | _ => ("IrrigationDistrict$Text", "at", "I", false)
def tyX3 : Nat → FieldType := fun k => match k with
  | 0 => .int
  | 1 => .int
  | 2 => .int
  | 3 => .array .char
  | _ => .int
abbrev wsX30 : List Cond := u_ws RX3 TX3 5
theorem nmX3 : ∀ a, a < 5 → ∀ b, b < 5 → a ≠ b → (TX3 a).2.1 ≠ (TX3 b).2.1 := by decide +kernel
theorem tyX3_ok : ∀ k, k < 5 → parseFieldDescriptor (TX3 k).2.2.1 = some (tyX3 k) := by decide +kernel
abbrev cX3_init : ByteArray := prog_5_method_1_code
def yX3_init : MethodName := ⟨RX3, "<init>", "()V"⟩
abbrev cX3_isFull : ByteArray := prog_5_method_2_code
def yX3_isFull : MethodName := ⟨RX3, "isFull", "()Z"⟩
abbrev cX3_put : ByteArray := prog_5_method_3_code
def yX3_put : MethodName := ⟨RX3, "put", "(I)V"⟩
def RX4 : String := "IrrigationDistrict$User"
def TX4 : u_T := fun k => match k with
  | 0 => ("IrrigationDistrict$User", "ditch", "I", false)
  | 1 => ("IrrigationDistrict$User", "year", "I", false)
  | 2 => ("IrrigationDistrict$User", "right", "I", false)
  | 3 => ("IrrigationDistrict$User", "need", "I", false)
  | 4 => ("IrrigationDistrict$User", "from", "I", false)
  | 5 => ("IrrigationDistrict$User", "to", "I", false)
  | 6 => ("IrrigationDistrict$User", "capacity", "I", false)
  | 7 => ("IrrigationDistrict$User", "content", "I", false)
  | 8 => ("IrrigationDistrict$User", "leak", "I", false)
  | 9 => ("IrrigationDistrict$User", "turnHours", "I", false)
  | 10 => ("IrrigationDistrict$User", "unitsMissed", "I", false)
  | _ => ("IrrigationDistrict$User", "shut", "Z", false)
def tyX4 : Nat → FieldType := fun k => match k with
  | 0 => .int
  | 1 => .int
  | 2 => .int
  | 3 => .int
  | 4 => .int
  | 5 => .int
  | 6 => .int
  | 7 => .int
  | 8 => .int
  | 9 => .int
  | 10 => .int
  | _ => .boolean
abbrev wsX40 : List Cond := u_ws RX4 TX4 12
theorem nmX4 : ∀ a, a < 12 → ∀ b, b < 12 → a ≠ b → (TX4 a).2.1 ≠ (TX4 b).2.1 := by decide +kernel
theorem tyX4_ok : ∀ k, k < 12 → parseFieldDescriptor (TX4 k).2.2.1 = some (tyX4 k) := by decide +kernel
abbrev cX4_init : ByteArray := prog_6_method_1_code
def yX4_init : MethodName := ⟨RX4, "<init>", "()V"⟩
abbrev cX4_begin : ByteArray := prog_6_method_2_code
def yX4_begin : MethodName := ⟨RX4, "begin", "(III)V"⟩
abbrev cX4_copyFrom : ByteArray := prog_6_method_3_code
def yX4_copyFrom : MethodName := ⟨RX4, "copyFrom", "(LIrrigationDistrict$User;)V"⟩
abbrev cX4_needAt : ByteArray := prog_6_method_4_code
def yX4_needAt : MethodName := ⟨RX4, "needAt", "(I)I"⟩
abbrev cX4_room : ByteArray := prog_6_method_5_code
def yX4_room : MethodName := ⟨RX4, "room", "()I"⟩
def RX5 : String := "IrrigationDistrict"
def TX5 : u_T := fun k => match k with
  | 0 => ("IrrigationDistrict", "now", "LIrrigationDistrict$State;", true)
  | 1 => ("IrrigationDistrict", "trial", "LIrrigationDistrict$State;", true)
  | 2 => ("IrrigationDistrict", "slots", "[LIrrigationDistrict$State;", true)
  | 3 => ("IrrigationDistrict", "saved", "[Z", true)
  | 4 => ("IrrigationDistrict", "flow", "LIrrigationDistrict$Flow;", true)
  | _ => ("IrrigationDistrict", "text", "LIrrigationDistrict$Text;", true)
def tyX5 : Nat → FieldType := fun k => match k with
  | 0 => .object "IrrigationDistrict$State"
  | 1 => .object "IrrigationDistrict$State"
  | 2 => .array (.object "IrrigationDistrict$State")
  | 3 => .array .boolean
  | 4 => .object "IrrigationDistrict$Flow"
  | _ => .object "IrrigationDistrict$Text"
abbrev wsX50 : List Cond := u_ws RX5 TX5 6
theorem nmX5 : ∀ a, a < 6 → ∀ b, b < 6 → a ≠ b → (TX5 a).2.1 ≠ (TX5 b).2.1 := by decide +kernel
theorem tyX5_ok : ∀ k, k < 6 → parseFieldDescriptor (TX5 k).2.2.1 = some (tyX5 k) := by decide +kernel
abbrev cX5_init : ByteArray := prog_1_method_1_code
def yX5_init : MethodName := ⟨RX5, "<init>", "()V"⟩
abbrev cX5_addDitch : ByteArray := prog_1_method_2_code
def yX5_addDitch : MethodName := ⟨RX5, "addDitch", "(III)I"⟩
abbrev cX5_setDitch : ByteArray := prog_1_method_3_code
def yX5_setDitch : MethodName := ⟨RX5, "setDitch", "(III)I"⟩
abbrev cX5_addUser : ByteArray := prog_1_method_4_code
def yX5_addUser : MethodName := ⟨RX5, "addUser", "(III)I"⟩
abbrev cX5_setField : ByteArray := prog_1_method_5_code
def yX5_setField : MethodName := ⟨RX5, "setField", "(IIII)I"⟩
abbrev cX5_setPond : ByteArray := prog_1_method_6_code
def yX5_setPond : MethodName := ⟨RX5, "setPond", "(III)I"⟩
abbrev cX5_setTurn : ByteArray := prog_1_method_7_code
def yX5_setTurn : MethodName := ⟨RX5, "setTurn", "(II)I"⟩
abbrev cX5_setSupply : ByteArray := prog_1_method_8_code
def yX5_setSupply : MethodName := ⟨RX5, "setSupply", "(III)I"⟩
abbrev cX5_setRule : ByteArray := prog_1_method_9_code
def yX5_setRule : MethodName := ⟨RX5, "setRule", "(I)I"⟩
abbrev cX5_setFutile : ByteArray := prog_1_method_10_code
def yX5_setFutile : MethodName := ⟨RX5, "setFutile", "(I)I"⟩
abbrev cX5_ditches : ByteArray := prog_1_method_11_code
def yX5_ditches : MethodName := ⟨RX5, "ditches", "()I"⟩
abbrev cX5_users : ByteArray := prog_1_method_12_code
def yX5_users : MethodName := ⟨RX5, "users", "()I"⟩
abbrev cX5_userByAge : ByteArray := prog_1_method_13_code
def yX5_userByAge : MethodName := ⟨RX5, "userByAge", "(I)I"⟩
abbrev cX5_time : ByteArray := prog_1_method_14_code
def yX5_time : MethodName := ⟨RX5, "time", "()I"⟩
abbrev cX5_asks : ByteArray := prog_1_method_15_code
def yX5_asks : MethodName := ⟨RX5, "asks", "(I)I"⟩
abbrev cX5_gets : ByteArray := prog_1_method_16_code
def yX5_gets : MethodName := ⟨RX5, "gets", "(I)I"⟩
abbrev cX5_inflow : ByteArray := prog_1_method_17_code
def yX5_inflow : MethodName := ⟨RX5, "inflow", "(I)I"⟩
abbrev cX5_loses : ByteArray := prog_1_method_18_code
def yX5_loses : MethodName := ⟨RX5, "loses", "(I)I"⟩
abbrev cX5_turn : ByteArray := prog_1_method_19_code
def yX5_turn : MethodName := ⟨RX5, "turn", "()I"⟩
abbrev cX5_limit : ByteArray := prog_1_method_20_code
def yX5_limit : MethodName := ⟨RX5, "limit", "(I)I"⟩
abbrev cX5_usefulGate : ByteArray := prog_1_method_22_code
def yX5_usefulGate : MethodName := ⟨RX5, "usefulGate", "(I)I"⟩
abbrev cX5_advance : ByteArray := prog_1_method_23_code
def yX5_advance : MethodName := ⟨RX5, "advance", "(I)I"⟩
abbrev cX5_account : ByteArray := prog_1_method_24_code
def yX5_account : MethodName := ⟨RX5, "account", "(I)I"⟩
abbrev cX5_willMiss : ByteArray := prog_1_method_27_code
def yX5_willMiss : MethodName := ⟨RX5, "willMiss", "(II)I"⟩
abbrev cX5_gain : ByteArray := prog_1_method_29_code
def yX5_gain : MethodName := ⟨RX5, "gain", "(II)I"⟩
abbrev cX5_complaint : ByteArray := prog_1_method_30_code
def yX5_complaint : MethodName := ⟨RX5, "complaint", "(II)I"⟩
abbrev cX5_settle : ByteArray := prog_1_method_31_code
def yX5_settle : MethodName := ⟨RX5, "settle", "()I"⟩
abbrev cX5_isShut : ByteArray := prog_1_method_32_code
def yX5_isShut : MethodName := ⟨RX5, "isShut", "(I)I"⟩
abbrev cX5_append : ByteArray := prog_1_method_33_code
def yX5_append : MethodName := ⟨RX5, "append", "(I)I"⟩
abbrev cX5_save : ByteArray := prog_1_method_37_code
def yX5_save : MethodName := ⟨RX5, "save", "(I)I"⟩
abbrev cX5_restore : ByteArray := prog_1_method_38_code
def yX5_restore : MethodName := ⟨RX5, "restore", "(I)I"⟩
abbrev cX5_checksum : ByteArray := prog_1_method_39_code
def yX5_checksum : MethodName := ⟨RX5, "checksum", "()J"⟩
abbrev cX5_withUser : ByteArray := prog_1_method_40_code
def yX5_withUser : MethodName := ⟨RX5, "withUser", "(JI)J"⟩
abbrev cX5_unitsGotInTrial : ByteArray := prog_1_method_41_code
def yX5_unitsGotInTrial : MethodName := ⟨RX5, "unitsGotInTrial", "(II)I"⟩
abbrev cX5_gainOf : ByteArray := prog_1_method_42_code
def yX5_gainOf : MethodName := ⟨RX5, "gainOf", "(II)I"⟩
abbrev cX5_judge : ByteArray := prog_1_method_43_code
def yX5_judge : MethodName := ⟨RX5, "judge", "(II)I"⟩
abbrev cX5_isWithin : ByteArray := prog_1_method_44_code
def yX5_isWithin : MethodName := ⟨RX5, "isWithin", "(III)Z"⟩
abbrev cX5_areGateAndLoss : ByteArray := prog_1_method_45_code
def yX5_areGateAndLoss : MethodName := ⟨RX5, "areGateAndLoss", "(II)Z"⟩
abbrev cX5_areHours : ByteArray := prog_1_method_46_code
def yX5_areHours : MethodName := ⟨RX5, "areHours", "(II)Z"⟩
def RX6 : String := "IrrigationDistrictModel"
def TX6 : u_T := fun k => match k with
  | _ => ("", "", "", false)
def tyX6 : Nat → FieldType := fun k => match k with
  | _ => .int
abbrev wsX60 : List Cond := u_ws RX6 TX6 0
theorem nmX6 : ∀ a, a < 0 → ∀ b, b < 0 → a ≠ b → (TX6 a).2.1 ≠ (TX6 b).2.1 := by decide +kernel
theorem tyX6_ok : ∀ k, k < 0 → parseFieldDescriptor (TX6 k).2.2.1 = some (tyX6 k) := by decide +kernel
def RJ9 : String := "java/lang/Math"
def TJ9 : u_T := fun k => match k with
  | _ => ("", "", "", false)
def tyJ9 : Nat → FieldType := fun k => match k with
  | _ => .int
abbrev wsJ90 : List Cond := u_ws RJ9 TJ9 0
theorem nmJ9 : ∀ a, a < 0 → ∀ b, b < 0 → a ≠ b → (TJ9 a).2.1 ≠ (TJ9 b).2.1 := by decide +kernel
theorem tyJ9_ok : ∀ k, k < 0 → parseFieldDescriptor (TJ9 k).2.2.1 = some (tyJ9 k) := by decide +kernel
abbrev cJ9_floorMod_7cf53 : ByteArray := prog_9_method_50_code
def yJ9_floorMod_7cf53 : MethodName := ⟨RJ9, "floorMod", "(II)I"⟩
abbrev cJ9_max_7cf53 : ByteArray := prog_9_method_65_code
def yJ9_max_7cf53 : MethodName := ⟨RJ9, "max", "(II)I"⟩
abbrev cJ9_min_7cf53 : ByteArray := prog_9_method_69_code
def yJ9_min_7cf53 : MethodName := ⟨RJ9, "min", "(II)I"⟩
def RL : String := "IrrigationDistrictLaw"
abbrev cL_cell : ByteArray := method_2_code
def yL_cell : MethodName := ⟨RL, "cell", "([II)I"⟩
abbrev cL_builds : ByteArray := method_3_code
def yL_builds : MethodName := ⟨RL, "builds", "(LIrrigationDistrict;[II[I[I[I)Z"⟩
abbrev cL_sound : ByteArray := method_4_code
def yL_sound : MethodName := ⟨RL, "sound", "(LIrrigationDistrict;[I[I[I)Z"⟩
abbrev cL_older : ByteArray := method_5_code
def yL_older : MethodName := ⟨RL, "older", "([III)Z"⟩
abbrev cL_eldest : ByteArray := method_6_code
def yL_eldest : MethodName := ⟨RL, "eldest", "(LIrrigationDistrict;[I)Z"⟩
abbrev cL_refuses : ByteArray := method_7_code
def yL_refuses : MethodName := ⟨RL, "refuses", "(LIrrigationDistrict;[I)Z"⟩
abbrev cL_law : ByteArray := code
def yL_law : MethodName := ⟨RL, "law", "([I)Z"⟩
def wsX0_init : List Cond := .code yX0_init cX0_init 1 none :: ([.methodLink RX0 1 objectInit, .instanceMethod objectInit, .code objectInit ⟨#[0xb1]⟩ 1 none])
def wsX0_begin : List Cond := .code yX0_begin cX0_begin 4 none :: ([.fieldLink RX0 7 "IrrigationDistrict$Ditch" "parent" "I", .fieldLink RX0 13 "IrrigationDistrict$Ditch" "gate" "I", .fieldLink RX0 16 "IrrigationDistrict$Ditch" "loss" "I"] ++ wsX00)
def wsX0_passedOf : List Cond := .code yX0_passedOf cX0_passedOf 2 (some .int) :: ([.fieldLink RX0 16 "IrrigationDistrict$Ditch" "loss" "I"] ++ wsX00)
def wsX0_inflowFor : List Cond := .code yX0_inflowFor cX0_inflowFor 3 (some .int) :: ([.fieldLink RX0 16 "IrrigationDistrict$Ditch" "loss" "I"] ++ wsX00)
def wsX1_init : List Cond := .code yX1_init cX1_init 1 none :: ([.methodLink RX1 3 objectInit, .instanceMethod objectInit, .code objectInit ⟨#[0xb1]⟩ 1 none, .arrayClass .int, .fieldLink RX1 9 "IrrigationDistrict$Flow" "asked" "[I", .fieldLink RX1 15 "IrrigationDistrict$Flow" "got" "[I", .fieldLink RX1 18 "IrrigationDistrict$Flow" "into" "[I", .fieldLink RX1 21 "IrrigationDistrict$Flow" "passed" "[I", .fieldLink RX1 24 "IrrigationDistrict$Flow" "most" "[I"] ++ wsX10)
def wsJ9_floorMod_7cf53 : List Cond := .code yJ9_floorMod_7cf53 cJ9_floorMod_7cf53 3 (some .int) :: ([])
def wsX2_hourOfDay : List Cond := .code yX2_hourOfDay cX2_hourOfDay 1 (some .int) :: ([.fieldLink RX2 71 "IrrigationDistrict$State" "hoursPassed" "I", .methodLink RX2 91 yJ9_floorMod_7cf53, .static yJ9_floorMod_7cf53, .initialized RJ9, .code yJ9_floorMod_7cf53 cJ9_floorMod_7cf53 3 (some .int)] ++ wsX20)
def wsX2_supplyNow : List Cond := .code yX2_supplyNow cX2_supplyNow 1 (some .int) :: ([.fieldLink RX2 27 "IrrigationDistrict$State" "supply" "[I", .methodLink RX2 94 yX2_hourOfDay, .instanceMethod yX2_hourOfDay, .selects RX2 yX2_hourOfDay yX2_hourOfDay, .initialized RX2, .code yX2_hourOfDay cX2_hourOfDay 1 (some .int), .fieldLink RX2 71 "IrrigationDistrict$State" "hoursPassed" "I", .methodLink RX2 91 yJ9_floorMod_7cf53, .static yJ9_floorMod_7cf53, .initialized RJ9, .code yJ9_floorMod_7cf53 cJ9_floorMod_7cf53 3 (some .int)] ++ wsX20)
def wsX2_userInTurn : List Cond := .code yX2_userInTurn cX2_userInTurn 4 (some .int) :: ([.fieldLink RX2 64 "IrrigationDistrict$State" "userCount" "I", .fieldLink RX2 19 "IrrigationDistrict$State" "user" "[LIrrigationDistrict$User;", .fieldLink RX2 98 "IrrigationDistrict$User" "turnHours" "I", .fieldLink RX2 33 "IrrigationDistrict$State" "rule" "I", .fieldLink RX2 71 "IrrigationDistrict$State" "hoursPassed" "I", .methodLink RX2 91 yJ9_floorMod_7cf53, .static yJ9_floorMod_7cf53, .initialized RJ9, .code yJ9_floorMod_7cf53 cJ9_floorMod_7cf53 3 (some .int)] ++ wsX20 ++ wsX40)
def wsX4_needAt : List Cond := .code yX4_needAt cX4_needAt 2 (some .int) :: ([.fieldLink RX4 22 "IrrigationDistrict$User" "from" "I", .fieldLink RX4 25 "IrrigationDistrict$User" "to" "I", .fieldLink RX4 19 "IrrigationDistrict$User" "need" "I"] ++ wsX40)
def wsX4_room : List Cond := .code yX4_room cX4_room 1 (some .int) :: ([.fieldLink RX4 28 "IrrigationDistrict$User" "capacity" "I", .fieldLink RX4 31 "IrrigationDistrict$User" "content" "I"] ++ wsX40)
def wsX2_unitsAsked_r1 : List Cond := [Cond.fieldLink RX2 19 "IrrigationDistrict$State" "user" "[LIrrigationDistrict$User;", Cond.fieldLink RX2 101 "IrrigationDistrict$User" "shut" "Z", Cond.fieldLink RX2 112 "IrrigationDistrict$User" "right" "I", Cond.methodLink RX2 115 Lib.Math.min.name, Cond.static Lib.Math.min.name, Cond.initialized "java/lang/Math", Cond.code Lib.Math.min.name Lib.Math.min.code 2 (some .int), Cond.methodLink RX2 94 yX2_hourOfDay, Cond.instanceMethod yX2_hourOfDay, Cond.selects RX2 yX2_hourOfDay yX2_hourOfDay, Cond.initialized RX2, Cond.code yX2_hourOfDay cX2_hourOfDay 1 (some .int), Cond.fieldLink RX2 71 "IrrigationDistrict$State" "hoursPassed" "I", Cond.methodLink RX2 91 yJ9_floorMod_7cf53, Cond.static yJ9_floorMod_7cf53, Cond.initialized RJ9, Cond.code yJ9_floorMod_7cf53 cJ9_floorMod_7cf53 3 (some .int), Cond.methodLink RX2 105 yX4_needAt, Cond.instanceMethod yX4_needAt, Cond.selects RX4 yX4_needAt yX4_needAt, Cond.initialized RX4, Cond.code yX4_needAt cX4_needAt 2 (some .int), Cond.fieldLink RX4 22 "IrrigationDistrict$User" "from" "I", Cond.fieldLink RX4 25 "IrrigationDistrict$User" "to" "I"]
def wsX2_unitsAsked_r2 : List Cond := [Cond.fieldLink RX4 19 "IrrigationDistrict$User" "need" "I", Cond.methodLink RX2 109 yX4_room, Cond.instanceMethod yX4_room, Cond.selects RX4 yX4_room yX4_room, Cond.code yX4_room cX4_room 1 (some .int), Cond.fieldLink RX4 28 "IrrigationDistrict$User" "capacity" "I", Cond.fieldLink RX4 31 "IrrigationDistrict$User" "content" "I"]
def wsX2_unitsAsked : List Cond := .code yX2_unitsAsked cX2_unitsAsked 5 (some .int) :: ((wsX2_unitsAsked_r1 ++ wsX2_unitsAsked_r2) ++ wsX20 ++ wsX40)
def wsX1_giveShares : List Cond := .code yX1_giveShares cX1_giveShares 4 none :: ([.fieldLink RX1 40 "IrrigationDistrict$State" "userCount" "I", .fieldLink RX1 15 "IrrigationDistrict$Flow" "got" "[I", .fieldLink RX1 9 "IrrigationDistrict$Flow" "asked" "[I"] ++ wsX20 ++ wsX10)
def wsX1_spread : List Cond := .code yX1_spread cX1_spread 3 none :: ([.fieldLink RX1 77 "IrrigationDistrict$State" "ditchCount" "I", .fieldLink RX1 21 "IrrigationDistrict$Flow" "passed" "[I", .fieldLink RX1 40 "IrrigationDistrict$State" "userCount" "I", .fieldLink RX1 68 "IrrigationDistrict$State" "user" "[LIrrigationDistrict$User;", .fieldLink RX1 72 "IrrigationDistrict$User" "ditch" "I", .fieldLink RX1 15 "IrrigationDistrict$Flow" "got" "[I", .fieldLink RX1 18 "IrrigationDistrict$Flow" "into" "[I", .fieldLink RX1 80 "IrrigationDistrict$State" "ditch" "[LIrrigationDistrict$Ditch;", .fieldLink RX1 88 "IrrigationDistrict$Ditch" "parent" "I", .methodLink RX1 98 yX0_inflowFor, .instanceMethod yX0_inflowFor, .selects RX0 yX0_inflowFor yX0_inflowFor, .initialized RX0, .code yX0_inflowFor cX0_inflowFor 3 (some .int), .fieldLink RX0 16 "IrrigationDistrict$Ditch" "loss" "I"] ++ wsX20 ++ wsX10 ++ wsX40 ++ wsX00)
def wsX1_isPossible : List Cond := .code yX1_isPossible cX1_isPossible 3 (some .boolean) :: ([.fieldLink RX1 18 "IrrigationDistrict$Flow" "into" "[I", .fieldLink RX1 33 "IrrigationDistrict$Flow" "supply" "I", .fieldLink RX1 77 "IrrigationDistrict$State" "ditchCount" "I", .fieldLink RX1 80 "IrrigationDistrict$State" "ditch" "[LIrrigationDistrict$Ditch;", .fieldLink RX1 83 "IrrigationDistrict$Ditch" "gate" "I"] ++ wsX10 ++ wsX20 ++ wsX00)
def wsX1_giveGreatestShares_r1 : List Cond := [Cond.methodLink RX1 91 yX1_giveShares, Cond.instanceMethod yX1_giveShares, Cond.selects RX1 yX1_giveShares yX1_giveShares, Cond.initialized RX1, Cond.code yX1_giveShares cX1_giveShares 4 none, Cond.fieldLink RX1 40 "IrrigationDistrict$State" "userCount" "I", Cond.fieldLink RX1 15 "IrrigationDistrict$Flow" "got" "[I", Cond.fieldLink RX1 9 "IrrigationDistrict$Flow" "asked" "[I", Cond.methodLink RX1 54 yX1_spread, Cond.instanceMethod yX1_spread, Cond.selects RX1 yX1_spread yX1_spread, Cond.code yX1_spread cX1_spread 3 none, Cond.fieldLink RX1 77 "IrrigationDistrict$State" "ditchCount" "I", Cond.fieldLink RX1 21 "IrrigationDistrict$Flow" "passed" "[I", Cond.fieldLink RX1 68 "IrrigationDistrict$State" "user" "[LIrrigationDistrict$User;", Cond.fieldLink RX1 72 "IrrigationDistrict$User" "ditch" "I", Cond.fieldLink RX1 18 "IrrigationDistrict$Flow" "into" "[I", Cond.fieldLink RX1 80 "IrrigationDistrict$State" "ditch" "[LIrrigationDistrict$Ditch;", Cond.fieldLink RX1 88 "IrrigationDistrict$Ditch" "parent" "I", Cond.methodLink RX1 98 yX0_inflowFor, Cond.instanceMethod yX0_inflowFor, Cond.selects RX0 yX0_inflowFor yX0_inflowFor, Cond.initialized RX0, Cond.code yX0_inflowFor cX0_inflowFor 3 (some .int)]
def wsX1_giveGreatestShares_r2 : List Cond := [Cond.fieldLink RX0 16 "IrrigationDistrict$Ditch" "loss" "I", Cond.methodLink RX1 94 yX1_isPossible, Cond.instanceMethod yX1_isPossible, Cond.selects RX1 yX1_isPossible yX1_isPossible, Cond.code yX1_isPossible cX1_isPossible 3 (some .boolean), Cond.fieldLink RX1 33 "IrrigationDistrict$Flow" "supply" "I", Cond.fieldLink RX1 83 "IrrigationDistrict$Ditch" "gate" "I"]
def wsX1_giveGreatestShares : List Cond := .code yX1_giveGreatestShares cX1_giveGreatestShares 4 none :: ((wsX1_giveGreatestShares_r1 ++ wsX1_giveGreatestShares_r2) ++ wsX20 ++ wsX10 ++ wsX40 ++ wsX00)
def wsX2_hasUser : List Cond := .code yX2_hasUser cX2_hasUser 2 (some .boolean) :: ([.fieldLink RX2 64 "IrrigationDistrict$State" "userCount" "I"] ++ wsX20)
def wsX1_mostFor : List Cond := .code yX1_mostFor cX1_mostFor 6 (some .int) :: ([.fieldLink RX1 24 "IrrigationDistrict$Flow" "most" "[I", .fieldLink RX1 80 "IrrigationDistrict$State" "ditch" "[LIrrigationDistrict$Ditch;", .fieldLink RX1 83 "IrrigationDistrict$Ditch" "gate" "I", .fieldLink RX1 33 "IrrigationDistrict$Flow" "supply" "I", .methodLink RX1 106 Lib.Math.min.name, .static Lib.Math.min.name, .initialized "java/lang/Math", .code Lib.Math.min.name Lib.Math.min.code 2 (some .int), .fieldLink RX1 77 "IrrigationDistrict$State" "ditchCount" "I", .fieldLink RX1 88 "IrrigationDistrict$Ditch" "parent" "I", .fieldLink RX1 21 "IrrigationDistrict$Flow" "passed" "[I", .fieldLink RX1 18 "IrrigationDistrict$Flow" "into" "[I", .fieldLink RX1 68 "IrrigationDistrict$State" "user" "[LIrrigationDistrict$User;", .fieldLink RX1 72 "IrrigationDistrict$User" "ditch" "I", .fieldLink RX1 15 "IrrigationDistrict$Flow" "got" "[I", .methodLink RX1 111 yX0_passedOf, .instanceMethod yX0_passedOf, .selects RX0 yX0_passedOf yX0_passedOf, .initialized RX0, .code yX0_passedOf cX0_passedOf 2 (some .int), .fieldLink RX0 16 "IrrigationDistrict$Ditch" "loss" "I"] ++ wsX10 ++ wsX20 ++ wsX00 ++ wsX40)
def wsX1_serve_r1 : List Cond := [Cond.fieldLink RX1 9 "IrrigationDistrict$Flow" "asked" "[I", Cond.methodLink RX1 106 Lib.Math.min.name, Cond.static Lib.Math.min.name, Cond.initialized "java/lang/Math", Cond.code Lib.Math.min.name Lib.Math.min.code 2 (some .int), Cond.fieldLink RX1 15 "IrrigationDistrict$Flow" "got" "[I", Cond.methodLink RX1 102 yX1_mostFor, Cond.instanceMethod yX1_mostFor, Cond.selects RX1 yX1_mostFor yX1_mostFor, Cond.initialized RX1, Cond.code yX1_mostFor cX1_mostFor 6 (some .int), Cond.fieldLink RX1 24 "IrrigationDistrict$Flow" "most" "[I", Cond.fieldLink RX1 80 "IrrigationDistrict$State" "ditch" "[LIrrigationDistrict$Ditch;", Cond.fieldLink RX1 83 "IrrigationDistrict$Ditch" "gate" "I", Cond.fieldLink RX1 33 "IrrigationDistrict$Flow" "supply" "I", Cond.fieldLink RX1 77 "IrrigationDistrict$State" "ditchCount" "I", Cond.fieldLink RX1 88 "IrrigationDistrict$Ditch" "parent" "I", Cond.fieldLink RX1 21 "IrrigationDistrict$Flow" "passed" "[I", Cond.fieldLink RX1 18 "IrrigationDistrict$Flow" "into" "[I", Cond.fieldLink RX1 68 "IrrigationDistrict$State" "user" "[LIrrigationDistrict$User;", Cond.fieldLink RX1 72 "IrrigationDistrict$User" "ditch" "I", Cond.methodLink RX1 111 yX0_passedOf, Cond.instanceMethod yX0_passedOf, Cond.selects RX0 yX0_passedOf yX0_passedOf]
def wsX1_serve_r2 : List Cond := [Cond.initialized RX0, Cond.code yX0_passedOf cX0_passedOf 2 (some .int), Cond.fieldLink RX0 16 "IrrigationDistrict$Ditch" "loss" "I", Cond.methodLink RX1 54 yX1_spread, Cond.instanceMethod yX1_spread, Cond.selects RX1 yX1_spread yX1_spread, Cond.code yX1_spread cX1_spread 3 none, Cond.fieldLink RX1 40 "IrrigationDistrict$State" "userCount" "I", Cond.methodLink RX1 98 yX0_inflowFor, Cond.instanceMethod yX0_inflowFor, Cond.selects RX0 yX0_inflowFor yX0_inflowFor, Cond.code yX0_inflowFor cX0_inflowFor 3 (some .int)]
def wsX1_serve : List Cond := .code yX1_serve cX1_serve 4 none :: ((wsX1_serve_r1 ++ wsX1_serve_r2) ++ wsX10 ++ wsX20 ++ wsX00 ++ wsX40)
def wsX1_distribute_r1 : List Cond := [Cond.fieldLink RX1 33 "IrrigationDistrict$Flow" "supply" "I", Cond.fieldLink RX1 40 "IrrigationDistrict$State" "userCount" "I", Cond.fieldLink RX1 9 "IrrigationDistrict$Flow" "asked" "[I", Cond.fieldLink RX1 15 "IrrigationDistrict$Flow" "got" "[I", Cond.fieldLink RX1 47 "IrrigationDistrict$State" "rule" "I", Cond.fieldLink RX1 65 "IrrigationDistrict$State" "byAge" "[I", Cond.methodLink RX1 27 yX2_supplyNow, Cond.instanceMethod yX2_supplyNow, Cond.selects RX2 yX2_supplyNow yX2_supplyNow, Cond.initialized RX2, Cond.code yX2_supplyNow cX2_supplyNow 1 (some .int), Cond.fieldLink RX2 27 "IrrigationDistrict$State" "supply" "[I", Cond.methodLink RX2 94 yX2_hourOfDay, Cond.instanceMethod yX2_hourOfDay, Cond.selects RX2 yX2_hourOfDay yX2_hourOfDay, Cond.code yX2_hourOfDay cX2_hourOfDay 1 (some .int), Cond.fieldLink RX2 71 "IrrigationDistrict$State" "hoursPassed" "I", Cond.methodLink RX2 91 yJ9_floorMod_7cf53, Cond.static yJ9_floorMod_7cf53, Cond.initialized RJ9, Cond.code yJ9_floorMod_7cf53 cJ9_floorMod_7cf53 3 (some .int), Cond.methodLink RX1 37 yX2_userInTurn, Cond.instanceMethod yX2_userInTurn, Cond.selects RX2 yX2_userInTurn yX2_userInTurn]
def wsX1_distribute_r2 : List Cond := [Cond.code yX2_userInTurn cX2_userInTurn 4 (some .int), Cond.fieldLink RX2 64 "IrrigationDistrict$State" "userCount" "I", Cond.fieldLink RX2 19 "IrrigationDistrict$State" "user" "[LIrrigationDistrict$User;", Cond.fieldLink RX2 98 "IrrigationDistrict$User" "turnHours" "I", Cond.fieldLink RX2 33 "IrrigationDistrict$State" "rule" "I", Cond.methodLink RX1 43 yX2_unitsAsked, Cond.instanceMethod yX2_unitsAsked, Cond.selects RX2 yX2_unitsAsked yX2_unitsAsked, Cond.code yX2_unitsAsked cX2_unitsAsked 5 (some .int), Cond.fieldLink RX2 101 "IrrigationDistrict$User" "shut" "Z", Cond.fieldLink RX2 112 "IrrigationDistrict$User" "right" "I", Cond.methodLink RX2 115 Lib.Math.min.name, Cond.static Lib.Math.min.name, Cond.initialized "java/lang/Math", Cond.code Lib.Math.min.name Lib.Math.min.code 2 (some .int), Cond.methodLink RX2 105 yX4_needAt, Cond.instanceMethod yX4_needAt, Cond.selects RX4 yX4_needAt yX4_needAt, Cond.initialized RX4, Cond.code yX4_needAt cX4_needAt 2 (some .int), Cond.fieldLink RX4 22 "IrrigationDistrict$User" "from" "I", Cond.fieldLink RX4 25 "IrrigationDistrict$User" "to" "I", Cond.fieldLink RX4 19 "IrrigationDistrict$User" "need" "I", Cond.methodLink RX2 109 yX4_room]
def wsX1_distribute_r3 : List Cond := [Cond.instanceMethod yX4_room, Cond.selects RX4 yX4_room yX4_room, Cond.code yX4_room cX4_room 1 (some .int), Cond.fieldLink RX4 28 "IrrigationDistrict$User" "capacity" "I", Cond.fieldLink RX4 31 "IrrigationDistrict$User" "content" "I", Cond.methodLink RX1 50 yX1_giveGreatestShares, Cond.instanceMethod yX1_giveGreatestShares, Cond.selects RX1 yX1_giveGreatestShares yX1_giveGreatestShares, Cond.initialized RX1, Cond.code yX1_giveGreatestShares cX1_giveGreatestShares 4 none, Cond.methodLink RX1 91 yX1_giveShares, Cond.instanceMethod yX1_giveShares, Cond.selects RX1 yX1_giveShares yX1_giveShares, Cond.code yX1_giveShares cX1_giveShares 4 none, Cond.methodLink RX1 54 yX1_spread, Cond.instanceMethod yX1_spread, Cond.selects RX1 yX1_spread yX1_spread, Cond.code yX1_spread cX1_spread 3 none, Cond.fieldLink RX1 77 "IrrigationDistrict$State" "ditchCount" "I", Cond.fieldLink RX1 21 "IrrigationDistrict$Flow" "passed" "[I", Cond.fieldLink RX1 68 "IrrigationDistrict$State" "user" "[LIrrigationDistrict$User;", Cond.fieldLink RX1 72 "IrrigationDistrict$User" "ditch" "I", Cond.fieldLink RX1 18 "IrrigationDistrict$Flow" "into" "[I", Cond.fieldLink RX1 80 "IrrigationDistrict$State" "ditch" "[LIrrigationDistrict$Ditch;"]
def wsX1_distribute_r4 : List Cond := [Cond.fieldLink RX1 88 "IrrigationDistrict$Ditch" "parent" "I", Cond.methodLink RX1 98 yX0_inflowFor, Cond.instanceMethod yX0_inflowFor, Cond.selects RX0 yX0_inflowFor yX0_inflowFor, Cond.initialized RX0, Cond.code yX0_inflowFor cX0_inflowFor 3 (some .int), Cond.fieldLink RX0 16 "IrrigationDistrict$Ditch" "loss" "I", Cond.methodLink RX1 94 yX1_isPossible, Cond.instanceMethod yX1_isPossible, Cond.selects RX1 yX1_isPossible yX1_isPossible, Cond.code yX1_isPossible cX1_isPossible 3 (some .boolean), Cond.fieldLink RX1 83 "IrrigationDistrict$Ditch" "gate" "I", Cond.methodLink RX1 57 yX2_hasUser, Cond.instanceMethod yX2_hasUser, Cond.selects RX2 yX2_hasUser yX2_hasUser, Cond.code yX2_hasUser cX2_hasUser 2 (some .boolean), Cond.methodLink RX1 61 yX1_serve, Cond.instanceMethod yX1_serve, Cond.selects RX1 yX1_serve yX1_serve, Cond.code yX1_serve cX1_serve 4 none, Cond.methodLink RX1 106 Lib.Math.min.name, Cond.methodLink RX1 102 yX1_mostFor, Cond.instanceMethod yX1_mostFor, Cond.selects RX1 yX1_mostFor yX1_mostFor]
def wsX1_distribute_r5 : List Cond := [Cond.code yX1_mostFor cX1_mostFor 6 (some .int), Cond.fieldLink RX1 24 "IrrigationDistrict$Flow" "most" "[I", Cond.methodLink RX1 111 yX0_passedOf, Cond.instanceMethod yX0_passedOf, Cond.selects RX0 yX0_passedOf yX0_passedOf, Cond.code yX0_passedOf cX0_passedOf 2 (some .int)]
def wsX1_distribute : List Cond := .code yX1_distribute cX1_distribute 5 none :: ((wsX1_distribute_r1 ++ (wsX1_distribute_r2 ++ (wsX1_distribute_r3 ++ (wsX1_distribute_r4 ++ wsX1_distribute_r5)))) ++ wsX10 ++ wsX20 ++ wsX40 ++ wsX00)
def wsX1_isContent : List Cond := .code yX1_isContent cX1_isContent 2 (some .boolean) :: ([.fieldLink RX1 15 "IrrigationDistrict$Flow" "got" "[I", .fieldLink RX1 9 "IrrigationDistrict$Flow" "asked" "[I"] ++ wsX10)
def wsX1_lostIn : List Cond := .code yX1_lostIn cX1_lostIn 2 (some .int) :: ([.fieldLink RX1 18 "IrrigationDistrict$Flow" "into" "[I", .fieldLink RX1 21 "IrrigationDistrict$Flow" "passed" "[I"] ++ wsX10)
def wsX1_unitsGot : List Cond := .code yX1_unitsGot cX1_unitsGot 4 (some .int) :: ([.fieldLink RX1 40 "IrrigationDistrict$State" "userCount" "I", .fieldLink RX1 15 "IrrigationDistrict$Flow" "got" "[I"] ++ wsX20 ++ wsX10)
def wsX1_ditchAgainstOneMore : List Cond := .code yX1_ditchAgainstOneMore cX1_ditchAgainstOneMore 5 (some .int) :: ([.fieldLink RX1 15 "IrrigationDistrict$Flow" "got" "[I", .fieldLink RX1 68 "IrrigationDistrict$State" "user" "[LIrrigationDistrict$User;", .fieldLink RX1 72 "IrrigationDistrict$User" "ditch" "I", .fieldLink RX1 77 "IrrigationDistrict$State" "ditchCount" "I", .fieldLink RX1 18 "IrrigationDistrict$Flow" "into" "[I", .fieldLink RX1 80 "IrrigationDistrict$State" "ditch" "[LIrrigationDistrict$Ditch;", .fieldLink RX1 83 "IrrigationDistrict$Ditch" "gate" "I", .fieldLink RX1 88 "IrrigationDistrict$Ditch" "parent" "I", .methodLink RX1 54 yX1_spread, .instanceMethod yX1_spread, .selects RX1 yX1_spread yX1_spread, .initialized RX1, .code yX1_spread cX1_spread 3 none, .fieldLink RX1 21 "IrrigationDistrict$Flow" "passed" "[I", .fieldLink RX1 40 "IrrigationDistrict$State" "userCount" "I", .methodLink RX1 98 yX0_inflowFor, .instanceMethod yX0_inflowFor, .selects RX0 yX0_inflowFor yX0_inflowFor, .initialized RX0, .code yX0_inflowFor cX0_inflowFor 3 (some .int), .fieldLink RX0 16 "IrrigationDistrict$Ditch" "loss" "I"] ++ wsX10 ++ wsX20 ++ wsX40 ++ wsX00)
def wsX4_init : List Cond := .code yX4_init cX4_init 1 none :: ([.methodLink RX4 1 objectInit, .instanceMethod objectInit, .code objectInit ⟨#[0xb1]⟩ 1 none])
def wsX2_putSupply : List Cond := .code yX2_putSupply cX2_putSupply 5 none :: ([.methodLink RX2 85 Lib.Math.max.name, .static Lib.Math.max.name, .initialized "java/lang/Math", .code Lib.Math.max.name Lib.Math.max.code 2 (some .int), .fieldLink RX2 27 "IrrigationDistrict$State" "supply" "[I"] ++ wsX20)
def wsX2_hasRoomForDitch : List Cond := .code yX2_hasRoomForDitch cX2_hasRoomForDitch 1 (some .boolean) :: ([.fieldLink RX2 49 "IrrigationDistrict$State" "ditchCount" "I"] ++ wsX20)
def wsX2_putDitch : List Cond := .code yX2_putDitch cX2_putDitch 4 none :: ([.fieldLink RX2 11 "IrrigationDistrict$State" "ditch" "[LIrrigationDistrict$Ditch;", .fieldLink RX2 49 "IrrigationDistrict$State" "ditchCount" "I", .methodLink RX2 74 yX2_hasRoomForDitch, .instanceMethod yX2_hasRoomForDitch, .selects RX2 yX2_hasRoomForDitch yX2_hasRoomForDitch, .initialized RX2, .code yX2_hasRoomForDitch cX2_hasRoomForDitch 1 (some .boolean), .methodLink RX2 61 yX0_begin, .instanceMethod yX0_begin, .selects RX0 yX0_begin yX0_begin, .initialized RX0, .code yX0_begin cX0_begin 4 none, .fieldLink RX0 7 "IrrigationDistrict$Ditch" "parent" "I", .fieldLink RX0 13 "IrrigationDistrict$Ditch" "gate" "I", .fieldLink RX0 16 "IrrigationDistrict$Ditch" "loss" "I"] ++ wsX20 ++ wsX00)
def wsX2_init_r1 : List Cond := [Cond.methodLink RX2 3 objectInit, Cond.instanceMethod objectInit, Cond.code objectInit ⟨#[0xb1]⟩ 1 none, Cond.classLink RX2 9 RX0, Cond.fieldLink RX2 11 "IrrigationDistrict$State" "ditch" "[LIrrigationDistrict$Ditch;", Cond.classLink RX2 17 RX4, Cond.fieldLink RX2 19 "IrrigationDistrict$State" "user" "[LIrrigationDistrict$User;", Cond.arrayClass .int, Cond.fieldLink RX2 23 "IrrigationDistrict$State" "byAge" "[I", Cond.fieldLink RX2 27 "IrrigationDistrict$State" "supply" "[I", Cond.fieldLink RX2 30 "IrrigationDistrict$State" "sums" "[I", Cond.fieldLink RX2 33 "IrrigationDistrict$State" "rule" "I", Cond.fieldLink RX2 37 "IrrigationDistrict$State" "futilePercent" "I", Cond.instantiable RX0 3, Cond.initialized RX0, Cond.instantiable RX4 12, Cond.initialized RX4, Cond.instanceMethod yX0_init, Cond.code yX0_init cX0_init 1 none, Cond.methodLink RX0 1 objectInit, Cond.instanceMethod yX4_init, Cond.code yX4_init cX4_init 1 none, Cond.methodLink RX4 1 objectInit, Cond.methodLink RX2 42 yX2_putSupply]
def wsX2_init_r2 : List Cond := [Cond.instanceMethod yX2_putSupply, Cond.selects RX2 yX2_putSupply yX2_putSupply, Cond.initialized RX2, Cond.code yX2_putSupply cX2_putSupply 5 none, Cond.methodLink RX2 85 Lib.Math.max.name, Cond.static Lib.Math.max.name, Cond.initialized "java/lang/Math", Cond.code Lib.Math.max.name Lib.Math.max.code 2 (some .int), Cond.methodLink RX2 46 yX2_putDitch, Cond.instanceMethod yX2_putDitch, Cond.selects RX2 yX2_putDitch yX2_putDitch, Cond.code yX2_putDitch cX2_putDitch 4 none, Cond.fieldLink RX2 49 "IrrigationDistrict$State" "ditchCount" "I", Cond.methodLink RX2 74 yX2_hasRoomForDitch, Cond.instanceMethod yX2_hasRoomForDitch, Cond.selects RX2 yX2_hasRoomForDitch yX2_hasRoomForDitch, Cond.code yX2_hasRoomForDitch cX2_hasRoomForDitch 1 (some .boolean), Cond.methodLink RX2 61 yX0_begin, Cond.instanceMethod yX0_begin, Cond.selects RX0 yX0_begin yX0_begin, Cond.code yX0_begin cX0_begin 4 none, Cond.fieldLink RX0 7 "IrrigationDistrict$Ditch" "parent" "I", Cond.fieldLink RX0 13 "IrrigationDistrict$Ditch" "gate" "I", Cond.fieldLink RX0 16 "IrrigationDistrict$Ditch" "loss" "I"]
def wsX2_init : List Cond := .code yX2_init cX2_init 2 none :: ((wsX2_init_r1 ++ wsX2_init_r2) ++ wsX20 ++ wsX00 ++ wsX40)
def wsX4_begin : List Cond := .code yX4_begin cX4_begin 4 none :: ([.fieldLink RX4 7 "IrrigationDistrict$User" "ditch" "I", .fieldLink RX4 13 "IrrigationDistrict$User" "year" "I", .fieldLink RX4 16 "IrrigationDistrict$User" "right" "I", .fieldLink RX4 19 "IrrigationDistrict$User" "need" "I", .fieldLink RX4 22 "IrrigationDistrict$User" "from" "I", .fieldLink RX4 25 "IrrigationDistrict$User" "to" "I", .fieldLink RX4 28 "IrrigationDistrict$User" "capacity" "I", .fieldLink RX4 31 "IrrigationDistrict$User" "content" "I", .fieldLink RX4 34 "IrrigationDistrict$User" "leak" "I", .fieldLink RX4 37 "IrrigationDistrict$User" "turnHours" "I", .fieldLink RX4 40 "IrrigationDistrict$User" "unitsMissed" "I", .fieldLink RX4 43 "IrrigationDistrict$User" "shut" "Z"] ++ wsX40)
def wsX4_copyFrom : List Cond := .code yX4_copyFrom cX4_copyFrom 2 none :: ([.fieldLink RX4 7 "IrrigationDistrict$User" "ditch" "I", .fieldLink RX4 13 "IrrigationDistrict$User" "year" "I", .fieldLink RX4 16 "IrrigationDistrict$User" "right" "I", .fieldLink RX4 19 "IrrigationDistrict$User" "need" "I", .fieldLink RX4 22 "IrrigationDistrict$User" "from" "I", .fieldLink RX4 25 "IrrigationDistrict$User" "to" "I", .fieldLink RX4 28 "IrrigationDistrict$User" "capacity" "I", .fieldLink RX4 31 "IrrigationDistrict$User" "content" "I", .fieldLink RX4 34 "IrrigationDistrict$User" "leak" "I", .fieldLink RX4 37 "IrrigationDistrict$User" "turnHours" "I", .fieldLink RX4 40 "IrrigationDistrict$User" "unitsMissed" "I", .fieldLink RX4 43 "IrrigationDistrict$User" "shut" "Z", .methodLink RX4 47 yX4_begin, .instanceMethod yX4_begin, .selects RX4 yX4_begin yX4_begin, .initialized RX4, .code yX4_begin cX4_begin 4 none] ++ wsX40)
def wsX2_copyFrom_r1 : List Cond := [Cond.fieldLink RX2 49 "IrrigationDistrict$State" "ditchCount" "I", Cond.fieldLink RX2 11 "IrrigationDistrict$State" "ditch" "[LIrrigationDistrict$Ditch;", Cond.fieldLink RX2 52 "IrrigationDistrict$Ditch" "parent" "I", Cond.fieldLink RX2 55 "IrrigationDistrict$Ditch" "gate" "I", Cond.fieldLink RX2 58 "IrrigationDistrict$Ditch" "loss" "I", Cond.fieldLink RX2 64 "IrrigationDistrict$State" "userCount" "I", Cond.fieldLink RX2 19 "IrrigationDistrict$State" "user" "[LIrrigationDistrict$User;", Cond.fieldLink RX2 23 "IrrigationDistrict$State" "byAge" "[I", Cond.fieldLink RX2 27 "IrrigationDistrict$State" "supply" "[I", Cond.fieldLink RX2 30 "IrrigationDistrict$State" "sums" "[I", Cond.fieldLink RX2 33 "IrrigationDistrict$State" "rule" "I", Cond.fieldLink RX2 37 "IrrigationDistrict$State" "futilePercent" "I", Cond.fieldLink RX2 71 "IrrigationDistrict$State" "hoursPassed" "I", Cond.methodLink RX2 61 yX0_begin, Cond.instanceMethod yX0_begin, Cond.selects RX0 yX0_begin yX0_begin, Cond.initialized RX0, Cond.code yX0_begin cX0_begin 4 none, Cond.fieldLink RX0 7 "IrrigationDistrict$Ditch" "parent" "I", Cond.fieldLink RX0 13 "IrrigationDistrict$Ditch" "gate" "I", Cond.fieldLink RX0 16 "IrrigationDistrict$Ditch" "loss" "I", Cond.methodLink RX2 67 yX4_copyFrom, Cond.instanceMethod yX4_copyFrom, Cond.selects RX4 yX4_copyFrom yX4_copyFrom]
def wsX2_copyFrom_r2 : List Cond := [Cond.initialized RX4, Cond.code yX4_copyFrom cX4_copyFrom 2 none, Cond.fieldLink RX4 7 "IrrigationDistrict$User" "ditch" "I", Cond.fieldLink RX4 13 "IrrigationDistrict$User" "year" "I", Cond.fieldLink RX4 16 "IrrigationDistrict$User" "right" "I", Cond.fieldLink RX4 19 "IrrigationDistrict$User" "need" "I", Cond.fieldLink RX4 22 "IrrigationDistrict$User" "from" "I", Cond.fieldLink RX4 25 "IrrigationDistrict$User" "to" "I", Cond.fieldLink RX4 28 "IrrigationDistrict$User" "capacity" "I", Cond.fieldLink RX4 31 "IrrigationDistrict$User" "content" "I", Cond.fieldLink RX4 34 "IrrigationDistrict$User" "leak" "I", Cond.fieldLink RX4 37 "IrrigationDistrict$User" "turnHours" "I", Cond.fieldLink RX4 40 "IrrigationDistrict$User" "unitsMissed" "I", Cond.fieldLink RX4 43 "IrrigationDistrict$User" "shut" "Z", Cond.methodLink RX4 47 yX4_begin, Cond.instanceMethod yX4_begin, Cond.selects RX4 yX4_begin yX4_begin, Cond.code yX4_begin cX4_begin 4 none]
def wsX2_copyFrom : List Cond := .code yX2_copyFrom cX2_copyFrom 4 none :: ((wsX2_copyFrom_r1 ++ wsX2_copyFrom_r2) ++ wsX20 ++ wsX00 ++ wsX40)
def wsX2_hasDitch : List Cond := .code yX2_hasDitch cX2_hasDitch 2 (some .boolean) :: ([.fieldLink RX2 49 "IrrigationDistrict$State" "ditchCount" "I"] ++ wsX20)
def wsX2_hasRoomForUser : List Cond := .code yX2_hasRoomForUser cX2_hasRoomForUser 1 (some .boolean) :: ([.fieldLink RX2 64 "IrrigationDistrict$State" "userCount" "I"] ++ wsX20)
def wsX2_putUser_r1 : List Cond := [Cond.fieldLink RX2 64 "IrrigationDistrict$State" "userCount" "I", Cond.fieldLink RX2 19 "IrrigationDistrict$State" "user" "[LIrrigationDistrict$User;", Cond.fieldLink RX2 23 "IrrigationDistrict$State" "byAge" "[I", Cond.fieldLink RX2 81 "IrrigationDistrict$User" "year" "I", Cond.methodLink RX2 78 yX2_hasRoomForUser, Cond.instanceMethod yX2_hasRoomForUser, Cond.selects RX2 yX2_hasRoomForUser yX2_hasRoomForUser, Cond.initialized RX2, Cond.code yX2_hasRoomForUser cX2_hasRoomForUser 1 (some .boolean), Cond.methodLink RX2 84 yX4_begin, Cond.instanceMethod yX4_begin, Cond.selects RX4 yX4_begin yX4_begin, Cond.initialized RX4, Cond.code yX4_begin cX4_begin 4 none, Cond.fieldLink RX4 7 "IrrigationDistrict$User" "ditch" "I", Cond.fieldLink RX4 13 "IrrigationDistrict$User" "year" "I", Cond.fieldLink RX4 16 "IrrigationDistrict$User" "right" "I", Cond.fieldLink RX4 19 "IrrigationDistrict$User" "need" "I", Cond.fieldLink RX4 22 "IrrigationDistrict$User" "from" "I", Cond.fieldLink RX4 25 "IrrigationDistrict$User" "to" "I", Cond.fieldLink RX4 28 "IrrigationDistrict$User" "capacity" "I", Cond.fieldLink RX4 31 "IrrigationDistrict$User" "content" "I", Cond.fieldLink RX4 34 "IrrigationDistrict$User" "leak" "I", Cond.fieldLink RX4 37 "IrrigationDistrict$User" "turnHours" "I"]
def wsX2_putUser_r2 : List Cond := [Cond.fieldLink RX4 40 "IrrigationDistrict$User" "unitsMissed" "I", Cond.fieldLink RX4 43 "IrrigationDistrict$User" "shut" "Z"]
def wsX2_putUser : List Cond := .code yX2_putUser cX2_putUser 5 none :: ((wsX2_putUser_r1 ++ wsX2_putUser_r2) ++ wsX20 ++ wsX40)
def wsX2_isYounger : List Cond := .code yX2_isYounger cX2_isYounger 5 (some .boolean) :: ([.fieldLink RX2 19 "IrrigationDistrict$State" "user" "[LIrrigationDistrict$User;", .fieldLink RX2 81 "IrrigationDistrict$User" "year" "I"] ++ wsX20 ++ wsX40)
def wsX2_useWater_r1 : List Cond := [Cond.fieldLink RX2 140 "IrrigationDistrict$User" "content" "I", Cond.methodLink RX2 115 Lib.Math.min.name, Cond.static Lib.Math.min.name, Cond.initialized "java/lang/Math", Cond.code Lib.Math.min.name Lib.Math.min.code 2 (some .int), Cond.fieldLink RX2 143 "IrrigationDistrict$User" "leak" "I", Cond.fieldLink RX2 146 "IrrigationDistrict$User" "unitsMissed" "I", Cond.fieldLink RX2 101 "IrrigationDistrict$User" "shut" "Z", Cond.fieldLink RX2 30 "IrrigationDistrict$State" "sums" "[I", Cond.methodLink RX2 94 yX2_hourOfDay, Cond.instanceMethod yX2_hourOfDay, Cond.selects RX2 yX2_hourOfDay yX2_hourOfDay, Cond.initialized RX2, Cond.code yX2_hourOfDay cX2_hourOfDay 1 (some .int), Cond.fieldLink RX2 71 "IrrigationDistrict$State" "hoursPassed" "I", Cond.methodLink RX2 91 yJ9_floorMod_7cf53, Cond.static yJ9_floorMod_7cf53, Cond.initialized RJ9, Cond.code yJ9_floorMod_7cf53 cJ9_floorMod_7cf53 3 (some .int), Cond.methodLink RX2 105 yX4_needAt, Cond.instanceMethod yX4_needAt, Cond.selects RX4 yX4_needAt yX4_needAt, Cond.initialized RX4, Cond.code yX4_needAt cX4_needAt 2 (some .int)]
def wsX2_useWater_r2 : List Cond := [Cond.fieldLink RX4 22 "IrrigationDistrict$User" "from" "I", Cond.fieldLink RX4 25 "IrrigationDistrict$User" "to" "I", Cond.fieldLink RX4 19 "IrrigationDistrict$User" "need" "I"]
def wsX2_useWater : List Cond := .code yX2_useWater cX2_useWater 7 none :: ((wsX2_useWater_r1 ++ wsX2_useWater_r2) ++ wsX40 ++ wsX20)
def wsX2_passHour_r1 : List Cond := [Cond.fieldLink RX2 30 "IrrigationDistrict$State" "sums" "[I", Cond.fieldLink RX2 124 "IrrigationDistrict$Flow" "into" "[I", Cond.fieldLink RX2 49 "IrrigationDistrict$State" "ditchCount" "I", Cond.fieldLink RX2 64 "IrrigationDistrict$State" "userCount" "I", Cond.fieldLink RX2 19 "IrrigationDistrict$State" "user" "[LIrrigationDistrict$User;", Cond.fieldLink RX2 133 "IrrigationDistrict$Flow" "got" "[I", Cond.fieldLink RX2 71 "IrrigationDistrict$State" "hoursPassed" "I", Cond.methodLink RX2 118 yX1_distribute, Cond.instanceMethod yX1_distribute, Cond.selects RX1 yX1_distribute yX1_distribute, Cond.initialized RX1, Cond.code yX1_distribute cX1_distribute 5 none, Cond.fieldLink RX1 33 "IrrigationDistrict$Flow" "supply" "I", Cond.fieldLink RX1 40 "IrrigationDistrict$State" "userCount" "I", Cond.fieldLink RX1 9 "IrrigationDistrict$Flow" "asked" "[I", Cond.fieldLink RX1 15 "IrrigationDistrict$Flow" "got" "[I", Cond.fieldLink RX1 47 "IrrigationDistrict$State" "rule" "I", Cond.fieldLink RX1 65 "IrrigationDistrict$State" "byAge" "[I", Cond.methodLink RX1 27 yX2_supplyNow, Cond.instanceMethod yX2_supplyNow, Cond.selects RX2 yX2_supplyNow yX2_supplyNow, Cond.initialized RX2, Cond.code yX2_supplyNow cX2_supplyNow 1 (some .int), Cond.fieldLink RX2 27 "IrrigationDistrict$State" "supply" "[I"]
def wsX2_passHour_r2 : List Cond := [Cond.methodLink RX2 94 yX2_hourOfDay, Cond.instanceMethod yX2_hourOfDay, Cond.selects RX2 yX2_hourOfDay yX2_hourOfDay, Cond.code yX2_hourOfDay cX2_hourOfDay 1 (some .int), Cond.methodLink RX2 91 yJ9_floorMod_7cf53, Cond.static yJ9_floorMod_7cf53, Cond.initialized RJ9, Cond.code yJ9_floorMod_7cf53 cJ9_floorMod_7cf53 3 (some .int), Cond.methodLink RX1 37 yX2_userInTurn, Cond.instanceMethod yX2_userInTurn, Cond.selects RX2 yX2_userInTurn yX2_userInTurn, Cond.code yX2_userInTurn cX2_userInTurn 4 (some .int), Cond.fieldLink RX2 98 "IrrigationDistrict$User" "turnHours" "I", Cond.fieldLink RX2 33 "IrrigationDistrict$State" "rule" "I", Cond.methodLink RX1 43 yX2_unitsAsked, Cond.instanceMethod yX2_unitsAsked, Cond.selects RX2 yX2_unitsAsked yX2_unitsAsked, Cond.code yX2_unitsAsked cX2_unitsAsked 5 (some .int), Cond.fieldLink RX2 101 "IrrigationDistrict$User" "shut" "Z", Cond.fieldLink RX2 112 "IrrigationDistrict$User" "right" "I", Cond.methodLink RX2 115 Lib.Math.min.name, Cond.static Lib.Math.min.name, Cond.initialized "java/lang/Math", Cond.code Lib.Math.min.name Lib.Math.min.code 2 (some .int)]
def wsX2_passHour_r3 : List Cond := [Cond.methodLink RX2 105 yX4_needAt, Cond.instanceMethod yX4_needAt, Cond.selects RX4 yX4_needAt yX4_needAt, Cond.initialized RX4, Cond.code yX4_needAt cX4_needAt 2 (some .int), Cond.fieldLink RX4 22 "IrrigationDistrict$User" "from" "I", Cond.fieldLink RX4 25 "IrrigationDistrict$User" "to" "I", Cond.fieldLink RX4 19 "IrrigationDistrict$User" "need" "I", Cond.methodLink RX2 109 yX4_room, Cond.instanceMethod yX4_room, Cond.selects RX4 yX4_room yX4_room, Cond.code yX4_room cX4_room 1 (some .int), Cond.fieldLink RX4 28 "IrrigationDistrict$User" "capacity" "I", Cond.fieldLink RX4 31 "IrrigationDistrict$User" "content" "I", Cond.methodLink RX1 50 yX1_giveGreatestShares, Cond.instanceMethod yX1_giveGreatestShares, Cond.selects RX1 yX1_giveGreatestShares yX1_giveGreatestShares, Cond.code yX1_giveGreatestShares cX1_giveGreatestShares 4 none, Cond.methodLink RX1 91 yX1_giveShares, Cond.instanceMethod yX1_giveShares, Cond.selects RX1 yX1_giveShares yX1_giveShares, Cond.code yX1_giveShares cX1_giveShares 4 none, Cond.methodLink RX1 54 yX1_spread, Cond.instanceMethod yX1_spread]
def wsX2_passHour_r4 : List Cond := [Cond.selects RX1 yX1_spread yX1_spread, Cond.code yX1_spread cX1_spread 3 none, Cond.fieldLink RX1 77 "IrrigationDistrict$State" "ditchCount" "I", Cond.fieldLink RX1 21 "IrrigationDistrict$Flow" "passed" "[I", Cond.fieldLink RX1 68 "IrrigationDistrict$State" "user" "[LIrrigationDistrict$User;", Cond.fieldLink RX1 72 "IrrigationDistrict$User" "ditch" "I", Cond.fieldLink RX1 18 "IrrigationDistrict$Flow" "into" "[I", Cond.fieldLink RX1 80 "IrrigationDistrict$State" "ditch" "[LIrrigationDistrict$Ditch;", Cond.fieldLink RX1 88 "IrrigationDistrict$Ditch" "parent" "I", Cond.methodLink RX1 98 yX0_inflowFor, Cond.instanceMethod yX0_inflowFor, Cond.selects RX0 yX0_inflowFor yX0_inflowFor, Cond.initialized RX0, Cond.code yX0_inflowFor cX0_inflowFor 3 (some .int), Cond.fieldLink RX0 16 "IrrigationDistrict$Ditch" "loss" "I", Cond.methodLink RX1 94 yX1_isPossible, Cond.instanceMethod yX1_isPossible, Cond.selects RX1 yX1_isPossible yX1_isPossible, Cond.code yX1_isPossible cX1_isPossible 3 (some .boolean), Cond.fieldLink RX1 83 "IrrigationDistrict$Ditch" "gate" "I", Cond.methodLink RX1 57 yX2_hasUser, Cond.instanceMethod yX2_hasUser, Cond.selects RX2 yX2_hasUser yX2_hasUser, Cond.code yX2_hasUser cX2_hasUser 2 (some .boolean)]
def wsX2_passHour_r5 : List Cond := [Cond.methodLink RX1 61 yX1_serve, Cond.instanceMethod yX1_serve, Cond.selects RX1 yX1_serve yX1_serve, Cond.code yX1_serve cX1_serve 4 none, Cond.methodLink RX1 106 Lib.Math.min.name, Cond.methodLink RX1 102 yX1_mostFor, Cond.instanceMethod yX1_mostFor, Cond.selects RX1 yX1_mostFor yX1_mostFor, Cond.code yX1_mostFor cX1_mostFor 6 (some .int), Cond.fieldLink RX1 24 "IrrigationDistrict$Flow" "most" "[I", Cond.methodLink RX1 111 yX0_passedOf, Cond.instanceMethod yX0_passedOf, Cond.selects RX0 yX0_passedOf yX0_passedOf, Cond.code yX0_passedOf cX0_passedOf 2 (some .int), Cond.methodLink RX2 127 yX2_supplyNow, Cond.methodLink RX2 130 yX1_lostIn, Cond.instanceMethod yX1_lostIn, Cond.selects RX1 yX1_lostIn yX1_lostIn, Cond.code yX1_lostIn cX1_lostIn 2 (some .int), Cond.methodLink RX2 136 yX2_useWater, Cond.instanceMethod yX2_useWater, Cond.selects RX2 yX2_useWater yX2_useWater, Cond.code yX2_useWater cX2_useWater 7 none, Cond.fieldLink RX2 140 "IrrigationDistrict$User" "content" "I"]
def wsX2_passHour_r6 : List Cond := [Cond.fieldLink RX2 143 "IrrigationDistrict$User" "leak" "I", Cond.fieldLink RX2 146 "IrrigationDistrict$User" "unitsMissed" "I"]
def wsX2_passHour : List Cond := .code yX2_passHour cX2_passHour 4 (some .int) :: ((wsX2_passHour_r1 ++ (wsX2_passHour_r2 ++ (wsX2_passHour_r3 ++ (wsX2_passHour_r4 ++ (wsX2_passHour_r5 ++ wsX2_passHour_r6))))) ++ wsX20 ++ wsX10 ++ wsX40 ++ wsX00)
def wsX3_init : List Cond := .code yX3_init cX3_init 1 none :: ([.methodLink RX3 3 objectInit, .instanceMethod objectInit, .code objectInit ⟨#[0xb1]⟩ 1 none, .fieldLink RX3 9 "IrrigationDistrict$Text" "fault" "I", .arrayClass .char, .fieldLink RX3 15 "IrrigationDistrict$Text" "letters" "[C"] ++ wsX30)
def wsX3_isFull : List Cond := .code yX3_isFull cX3_isFull 1 (some .boolean) :: ([.fieldLink RX3 19 "IrrigationDistrict$Text" "length" "I"] ++ wsX30)
def wsX3_put : List Cond := .code yX3_put cX3_put 2 none :: ([.fieldLink RX3 15 "IrrigationDistrict$Text" "letters" "[C", .fieldLink RX3 19 "IrrigationDistrict$Text" "length" "I", .methodLink RX3 22 yX3_isFull, .instanceMethod yX3_isFull, .selects RX3 yX3_isFull yX3_isFull, .initialized RX3, .code yX3_isFull cX3_isFull 1 (some .boolean)] ++ wsX30)
def wsX5_init_r1 : List Cond := [Cond.methodLink RX5 1 objectInit, Cond.instanceMethod objectInit, Cond.code objectInit ⟨#[0xb1]⟩ 1 none, Cond.classLink RX5 7 RX2, Cond.instantiable RX2 10, Cond.initialized RX2, Cond.fieldLink RX5 10 "IrrigationDistrict" "now" "LIrrigationDistrict$State;", Cond.fieldLink RX5 16 "IrrigationDistrict" "trial" "LIrrigationDistrict$State;", Cond.fieldLink RX5 19 "IrrigationDistrict" "slots" "[LIrrigationDistrict$State;", Cond.arrayClass .boolean, Cond.fieldLink RX5 23 "IrrigationDistrict" "saved" "[Z", Cond.classLink RX5 27 RX1, Cond.instantiable RX1 6, Cond.initialized RX1, Cond.fieldLink RX5 30 "IrrigationDistrict" "flow" "LIrrigationDistrict$Flow;", Cond.classLink RX5 34 RX3, Cond.instantiable RX3 5, Cond.initialized RX3, Cond.fieldLink RX5 37 "IrrigationDistrict" "text" "LIrrigationDistrict$Text;", Cond.methodLink RX5 9 yX2_init, Cond.instanceMethod yX2_init, Cond.code yX2_init cX2_init 2 none, Cond.methodLink RX2 3 objectInit, Cond.classLink RX2 9 RX0]
def wsX5_init_r2 : List Cond := [Cond.fieldLink RX2 11 "IrrigationDistrict$State" "ditch" "[LIrrigationDistrict$Ditch;", Cond.classLink RX2 17 RX4, Cond.fieldLink RX2 19 "IrrigationDistrict$State" "user" "[LIrrigationDistrict$User;", Cond.arrayClass .int, Cond.fieldLink RX2 23 "IrrigationDistrict$State" "byAge" "[I", Cond.fieldLink RX2 27 "IrrigationDistrict$State" "supply" "[I", Cond.fieldLink RX2 30 "IrrigationDistrict$State" "sums" "[I", Cond.fieldLink RX2 33 "IrrigationDistrict$State" "rule" "I", Cond.fieldLink RX2 37 "IrrigationDistrict$State" "futilePercent" "I", Cond.instantiable RX0 3, Cond.initialized RX0, Cond.instantiable RX4 12, Cond.initialized RX4, Cond.instanceMethod yX0_init, Cond.code yX0_init cX0_init 1 none, Cond.methodLink RX0 1 objectInit, Cond.instanceMethod yX4_init, Cond.code yX4_init cX4_init 1 none, Cond.methodLink RX4 1 objectInit, Cond.methodLink RX2 42 yX2_putSupply, Cond.instanceMethod yX2_putSupply, Cond.selects RX2 yX2_putSupply yX2_putSupply, Cond.code yX2_putSupply cX2_putSupply 5 none, Cond.methodLink RX2 85 Lib.Math.max.name]
def wsX5_init_r3 : List Cond := [Cond.static Lib.Math.max.name, Cond.initialized "java/lang/Math", Cond.code Lib.Math.max.name Lib.Math.max.code 2 (some .int), Cond.methodLink RX2 46 yX2_putDitch, Cond.instanceMethod yX2_putDitch, Cond.selects RX2 yX2_putDitch yX2_putDitch, Cond.code yX2_putDitch cX2_putDitch 4 none, Cond.fieldLink RX2 49 "IrrigationDistrict$State" "ditchCount" "I", Cond.methodLink RX2 74 yX2_hasRoomForDitch, Cond.instanceMethod yX2_hasRoomForDitch, Cond.selects RX2 yX2_hasRoomForDitch yX2_hasRoomForDitch, Cond.code yX2_hasRoomForDitch cX2_hasRoomForDitch 1 (some .boolean), Cond.methodLink RX2 61 yX0_begin, Cond.instanceMethod yX0_begin, Cond.selects RX0 yX0_begin yX0_begin, Cond.code yX0_begin cX0_begin 4 none, Cond.fieldLink RX0 7 "IrrigationDistrict$Ditch" "parent" "I", Cond.fieldLink RX0 13 "IrrigationDistrict$Ditch" "gate" "I", Cond.fieldLink RX0 16 "IrrigationDistrict$Ditch" "loss" "I", Cond.instanceMethod yX1_init, Cond.code yX1_init cX1_init 1 none, Cond.methodLink RX1 3 objectInit, Cond.fieldLink RX1 9 "IrrigationDistrict$Flow" "asked" "[I", Cond.fieldLink RX1 15 "IrrigationDistrict$Flow" "got" "[I"]
def wsX5_init_r4 : List Cond := [Cond.fieldLink RX1 18 "IrrigationDistrict$Flow" "into" "[I", Cond.fieldLink RX1 21 "IrrigationDistrict$Flow" "passed" "[I", Cond.fieldLink RX1 24 "IrrigationDistrict$Flow" "most" "[I", Cond.instanceMethod yX3_init, Cond.code yX3_init cX3_init 1 none, Cond.methodLink RX3 3 objectInit, Cond.fieldLink RX3 9 "IrrigationDistrict$Text" "fault" "I", Cond.arrayClass .char, Cond.fieldLink RX3 15 "IrrigationDistrict$Text" "letters" "[C"]
def wsX5_init : List Cond := .code yX5_init cX5_init 1 none :: ((wsX5_init_r1 ++ (wsX5_init_r2 ++ (wsX5_init_r3 ++ wsX5_init_r4))) ++ wsX20 ++ wsX50 ++ wsX10 ++ wsX30 ++ wsX00 ++ wsX40)
def wsX5_isWithin : List Cond := .code yX5_isWithin cX5_isWithin 3 (some .boolean) :: ([])
def wsX5_areGateAndLoss : List Cond := .code yX5_areGateAndLoss cX5_areGateAndLoss 2 (some .boolean) :: ([.methodLink RX5 73 yX5_isWithin, .static yX5_isWithin, .initialized RX5, .code yX5_isWithin cX5_isWithin 3 (some .boolean)])
def wsX5_addDitch_r1 : List Cond := [Cond.fieldLink RX5 10 "IrrigationDistrict" "now" "LIrrigationDistrict$State;", Cond.fieldLink RX5 57 "IrrigationDistrict$State" "ditchCount" "I", Cond.methodLink RX5 41 yX2_hasDitch, Cond.instanceMethod yX2_hasDitch, Cond.selects RX2 yX2_hasDitch yX2_hasDitch, Cond.initialized RX2, Cond.code yX2_hasDitch cX2_hasDitch 2 (some .boolean), Cond.fieldLink RX2 49 "IrrigationDistrict$State" "ditchCount" "I", Cond.methodLink RX5 45 yX5_areGateAndLoss, Cond.static yX5_areGateAndLoss, Cond.initialized RX5, Cond.code yX5_areGateAndLoss cX5_areGateAndLoss 2 (some .boolean), Cond.methodLink RX5 73 yX5_isWithin, Cond.static yX5_isWithin, Cond.code yX5_isWithin cX5_isWithin 3 (some .boolean), Cond.methodLink RX5 49 yX2_hasRoomForDitch, Cond.instanceMethod yX2_hasRoomForDitch, Cond.selects RX2 yX2_hasRoomForDitch yX2_hasRoomForDitch, Cond.code yX2_hasRoomForDitch cX2_hasRoomForDitch 1 (some .boolean), Cond.methodLink RX5 53 yX2_putDitch, Cond.instanceMethod yX2_putDitch, Cond.selects RX2 yX2_putDitch yX2_putDitch, Cond.code yX2_putDitch cX2_putDitch 4 none, Cond.fieldLink RX2 11 "IrrigationDistrict$State" "ditch" "[LIrrigationDistrict$Ditch;"]
def wsX5_addDitch_r2 : List Cond := [Cond.methodLink RX2 74 yX2_hasRoomForDitch, Cond.methodLink RX2 61 yX0_begin, Cond.instanceMethod yX0_begin, Cond.selects RX0 yX0_begin yX0_begin, Cond.initialized RX0, Cond.code yX0_begin cX0_begin 4 none, Cond.fieldLink RX0 7 "IrrigationDistrict$Ditch" "parent" "I", Cond.fieldLink RX0 13 "IrrigationDistrict$Ditch" "gate" "I", Cond.fieldLink RX0 16 "IrrigationDistrict$Ditch" "loss" "I"]
def wsX5_addDitch : List Cond := .code yX5_addDitch cX5_addDitch 4 (some .int) :: ((wsX5_addDitch_r1 ++ wsX5_addDitch_r2) ++ wsX50 ++ wsX20 ++ wsX00)
def wsX5_setDitch : List Cond := .code yX5_setDitch cX5_setDitch 6 (some .int) :: ([.fieldLink RX5 10 "IrrigationDistrict" "now" "LIrrigationDistrict$State;", .fieldLink RX5 61 "IrrigationDistrict$State" "ditch" "[LIrrigationDistrict$Ditch;", .fieldLink RX5 65 "IrrigationDistrict$Ditch" "gate" "I", .fieldLink RX5 70 "IrrigationDistrict$Ditch" "loss" "I", .methodLink RX5 41 yX2_hasDitch, .instanceMethod yX2_hasDitch, .selects RX2 yX2_hasDitch yX2_hasDitch, .initialized RX2, .code yX2_hasDitch cX2_hasDitch 2 (some .boolean), .fieldLink RX2 49 "IrrigationDistrict$State" "ditchCount" "I", .methodLink RX5 45 yX5_areGateAndLoss, .static yX5_areGateAndLoss, .initialized RX5, .code yX5_areGateAndLoss cX5_areGateAndLoss 2 (some .boolean), .methodLink RX5 73 yX5_isWithin, .static yX5_isWithin, .code yX5_isWithin cX5_isWithin 3 (some .boolean)] ++ wsX50 ++ wsX20 ++ wsX00)
def wsX5_addUser_r1 : List Cond := [Cond.fieldLink RX5 10 "IrrigationDistrict" "now" "LIrrigationDistrict$State;", Cond.fieldLink RX5 83 "IrrigationDistrict$State" "userCount" "I", Cond.methodLink RX5 41 yX2_hasDitch, Cond.instanceMethod yX2_hasDitch, Cond.selects RX2 yX2_hasDitch yX2_hasDitch, Cond.initialized RX2, Cond.code yX2_hasDitch cX2_hasDitch 2 (some .boolean), Cond.fieldLink RX2 49 "IrrigationDistrict$State" "ditchCount" "I", Cond.methodLink RX5 73 yX5_isWithin, Cond.static yX5_isWithin, Cond.initialized RX5, Cond.code yX5_isWithin cX5_isWithin 3 (some .boolean), Cond.methodLink RX5 77 yX2_hasRoomForUser, Cond.instanceMethod yX2_hasRoomForUser, Cond.selects RX2 yX2_hasRoomForUser yX2_hasRoomForUser, Cond.code yX2_hasRoomForUser cX2_hasRoomForUser 1 (some .boolean), Cond.fieldLink RX2 64 "IrrigationDistrict$State" "userCount" "I", Cond.methodLink RX5 80 yX2_putUser, Cond.instanceMethod yX2_putUser, Cond.selects RX2 yX2_putUser yX2_putUser, Cond.code yX2_putUser cX2_putUser 5 none, Cond.fieldLink RX2 19 "IrrigationDistrict$State" "user" "[LIrrigationDistrict$User;", Cond.fieldLink RX2 23 "IrrigationDistrict$State" "byAge" "[I", Cond.fieldLink RX2 81 "IrrigationDistrict$User" "year" "I"]
def wsX5_addUser_r2 : List Cond := [Cond.methodLink RX2 78 yX2_hasRoomForUser, Cond.methodLink RX2 84 yX4_begin, Cond.instanceMethod yX4_begin, Cond.selects RX4 yX4_begin yX4_begin, Cond.initialized RX4, Cond.code yX4_begin cX4_begin 4 none, Cond.fieldLink RX4 7 "IrrigationDistrict$User" "ditch" "I", Cond.fieldLink RX4 13 "IrrigationDistrict$User" "year" "I", Cond.fieldLink RX4 16 "IrrigationDistrict$User" "right" "I", Cond.fieldLink RX4 19 "IrrigationDistrict$User" "need" "I", Cond.fieldLink RX4 22 "IrrigationDistrict$User" "from" "I", Cond.fieldLink RX4 25 "IrrigationDistrict$User" "to" "I", Cond.fieldLink RX4 28 "IrrigationDistrict$User" "capacity" "I", Cond.fieldLink RX4 31 "IrrigationDistrict$User" "content" "I", Cond.fieldLink RX4 34 "IrrigationDistrict$User" "leak" "I", Cond.fieldLink RX4 37 "IrrigationDistrict$User" "turnHours" "I", Cond.fieldLink RX4 40 "IrrigationDistrict$User" "unitsMissed" "I", Cond.fieldLink RX4 43 "IrrigationDistrict$User" "shut" "Z"]
def wsX5_addUser : List Cond := .code yX5_addUser cX5_addUser 4 (some .int) :: ((wsX5_addUser_r1 ++ wsX5_addUser_r2) ++ wsX50 ++ wsX20 ++ wsX40)
def wsX5_areHours : List Cond := .code yX5_areHours cX5_areHours 2 (some .boolean) :: ([.methodLink RX5 73 yX5_isWithin, .static yX5_isWithin, .initialized RX5, .code yX5_isWithin cX5_isWithin 3 (some .boolean)])
def wsX5_setField : List Cond := .code yX5_setField cX5_setField 7 (some .int) :: ([.fieldLink RX5 10 "IrrigationDistrict" "now" "LIrrigationDistrict$State;", .fieldLink RX5 92 "IrrigationDistrict$State" "user" "[LIrrigationDistrict$User;", .fieldLink RX5 96 "IrrigationDistrict$User" "need" "I", .fieldLink RX5 101 "IrrigationDistrict$User" "from" "I", .fieldLink RX5 104 "IrrigationDistrict$User" "to" "I", .methodLink RX5 86 yX2_hasUser, .instanceMethod yX2_hasUser, .selects RX2 yX2_hasUser yX2_hasUser, .initialized RX2, .code yX2_hasUser cX2_hasUser 2 (some .boolean), .fieldLink RX2 64 "IrrigationDistrict$State" "userCount" "I", .methodLink RX5 73 yX5_isWithin, .static yX5_isWithin, .initialized RX5, .code yX5_isWithin cX5_isWithin 3 (some .boolean), .methodLink RX5 89 yX5_areHours, .static yX5_areHours, .code yX5_areHours cX5_areHours 2 (some .boolean)] ++ wsX50 ++ wsX20 ++ wsX40)
def wsX5_setPond : List Cond := .code yX5_setPond cX5_setPond 5 (some .int) :: ([.fieldLink RX5 10 "IrrigationDistrict" "now" "LIrrigationDistrict$State;", .fieldLink RX5 92 "IrrigationDistrict$State" "user" "[LIrrigationDistrict$User;", .fieldLink RX5 107 "IrrigationDistrict$User" "capacity" "I", .fieldLink RX5 110 "IrrigationDistrict$User" "leak" "I", .fieldLink RX5 113 "IrrigationDistrict$User" "content" "I", .methodLink RX5 116 Lib.Math.min.name, .static Lib.Math.min.name, .initialized "java/lang/Math", .code Lib.Math.min.name Lib.Math.min.code 2 (some .int), .methodLink RX5 86 yX2_hasUser, .instanceMethod yX2_hasUser, .selects RX2 yX2_hasUser yX2_hasUser, .initialized RX2, .code yX2_hasUser cX2_hasUser 2 (some .boolean), .fieldLink RX2 64 "IrrigationDistrict$State" "userCount" "I", .methodLink RX5 73 yX5_isWithin, .static yX5_isWithin, .initialized RX5, .code yX5_isWithin cX5_isWithin 3 (some .boolean)] ++ wsX50 ++ wsX20 ++ wsX40)
def wsX5_setTurn : List Cond := .code yX5_setTurn cX5_setTurn 5 (some .int) :: ([.fieldLink RX5 10 "IrrigationDistrict" "now" "LIrrigationDistrict$State;", .fieldLink RX5 92 "IrrigationDistrict$State" "user" "[LIrrigationDistrict$User;", .fieldLink RX5 122 "IrrigationDistrict$User" "turnHours" "I", .methodLink RX5 86 yX2_hasUser, .instanceMethod yX2_hasUser, .selects RX2 yX2_hasUser yX2_hasUser, .initialized RX2, .code yX2_hasUser cX2_hasUser 2 (some .boolean), .fieldLink RX2 64 "IrrigationDistrict$State" "userCount" "I", .methodLink RX5 73 yX5_isWithin, .static yX5_isWithin, .initialized RX5, .code yX5_isWithin cX5_isWithin 3 (some .boolean)] ++ wsX50 ++ wsX20 ++ wsX40)
def wsX5_setSupply : List Cond := .code yX5_setSupply cX5_setSupply 5 (some .int) :: ([.fieldLink RX5 10 "IrrigationDistrict" "now" "LIrrigationDistrict$State;", .fieldLink RX5 125 "IrrigationDistrict$State" "supply" "[I", .methodLink RX5 89 yX5_areHours, .static yX5_areHours, .initialized RX5, .code yX5_areHours cX5_areHours 2 (some .boolean), .methodLink RX5 73 yX5_isWithin, .static yX5_isWithin, .code yX5_isWithin cX5_isWithin 3 (some .boolean), .methodLink RX5 129 yX2_putSupply, .instanceMethod yX2_putSupply, .selects RX2 yX2_putSupply yX2_putSupply, .initialized RX2, .code yX2_putSupply cX2_putSupply 5 none, .methodLink RX2 85 Lib.Math.max.name, .static Lib.Math.max.name, .initialized "java/lang/Math", .code Lib.Math.max.name Lib.Math.max.code 2 (some .int), .fieldLink RX2 27 "IrrigationDistrict$State" "supply" "[I"] ++ wsX50 ++ wsX20)
def wsX5_setRule : List Cond := .code yX5_setRule cX5_setRule 3 (some .int) :: ([.fieldLink RX5 10 "IrrigationDistrict" "now" "LIrrigationDistrict$State;", .fieldLink RX5 132 "IrrigationDistrict$State" "rule" "I", .methodLink RX5 73 yX5_isWithin, .static yX5_isWithin, .initialized RX5, .code yX5_isWithin cX5_isWithin 3 (some .boolean)] ++ wsX50 ++ wsX20)
def wsX5_setFutile : List Cond := .code yX5_setFutile cX5_setFutile 3 (some .int) :: ([.fieldLink RX5 10 "IrrigationDistrict" "now" "LIrrigationDistrict$State;", .fieldLink RX5 135 "IrrigationDistrict$State" "futilePercent" "I", .methodLink RX5 73 yX5_isWithin, .static yX5_isWithin, .initialized RX5, .code yX5_isWithin cX5_isWithin 3 (some .boolean)] ++ wsX50 ++ wsX20)
def wsX5_ditches : List Cond := .code yX5_ditches cX5_ditches 1 (some .int) :: ([.fieldLink RX5 10 "IrrigationDistrict" "now" "LIrrigationDistrict$State;", .fieldLink RX5 57 "IrrigationDistrict$State" "ditchCount" "I"] ++ wsX50 ++ wsX20)
def wsX5_users : List Cond := .code yX5_users cX5_users 1 (some .int) :: ([.fieldLink RX5 10 "IrrigationDistrict" "now" "LIrrigationDistrict$State;", .fieldLink RX5 83 "IrrigationDistrict$State" "userCount" "I"] ++ wsX50 ++ wsX20)
def wsX5_userByAge : List Cond := .code yX5_userByAge cX5_userByAge 2 (some .int) :: ([.fieldLink RX5 10 "IrrigationDistrict" "now" "LIrrigationDistrict$State;", .fieldLink RX5 138 "IrrigationDistrict$State" "byAge" "[I", .methodLink RX5 86 yX2_hasUser, .instanceMethod yX2_hasUser, .selects RX2 yX2_hasUser yX2_hasUser, .initialized RX2, .code yX2_hasUser cX2_hasUser 2 (some .boolean), .fieldLink RX2 64 "IrrigationDistrict$State" "userCount" "I"] ++ wsX50 ++ wsX20)
def wsX5_time : List Cond := .code yX5_time cX5_time 1 (some .int) :: ([.fieldLink RX5 10 "IrrigationDistrict" "now" "LIrrigationDistrict$State;", .fieldLink RX5 141 "IrrigationDistrict$State" "hoursPassed" "I"] ++ wsX50 ++ wsX20)
def wsX5_asks_r1 : List Cond := [Cond.fieldLink RX5 10 "IrrigationDistrict" "now" "LIrrigationDistrict$State;", Cond.methodLink RX5 86 yX2_hasUser, Cond.instanceMethod yX2_hasUser, Cond.selects RX2 yX2_hasUser yX2_hasUser, Cond.initialized RX2, Cond.code yX2_hasUser cX2_hasUser 2 (some .boolean), Cond.fieldLink RX2 64 "IrrigationDistrict$State" "userCount" "I", Cond.methodLink RX5 144 yX2_userInTurn, Cond.instanceMethod yX2_userInTurn, Cond.selects RX2 yX2_userInTurn yX2_userInTurn, Cond.code yX2_userInTurn cX2_userInTurn 4 (some .int), Cond.fieldLink RX2 19 "IrrigationDistrict$State" "user" "[LIrrigationDistrict$User;", Cond.fieldLink RX2 98 "IrrigationDistrict$User" "turnHours" "I", Cond.fieldLink RX2 33 "IrrigationDistrict$State" "rule" "I", Cond.fieldLink RX2 71 "IrrigationDistrict$State" "hoursPassed" "I", Cond.methodLink RX2 91 yJ9_floorMod_7cf53, Cond.static yJ9_floorMod_7cf53, Cond.initialized RJ9, Cond.code yJ9_floorMod_7cf53 cJ9_floorMod_7cf53 3 (some .int), Cond.methodLink RX5 148 yX2_unitsAsked, Cond.instanceMethod yX2_unitsAsked, Cond.selects RX2 yX2_unitsAsked yX2_unitsAsked, Cond.code yX2_unitsAsked cX2_unitsAsked 5 (some .int), Cond.fieldLink RX2 101 "IrrigationDistrict$User" "shut" "Z"]
def wsX5_asks_r2 : List Cond := [Cond.fieldLink RX2 112 "IrrigationDistrict$User" "right" "I", Cond.methodLink RX2 115 Lib.Math.min.name, Cond.static Lib.Math.min.name, Cond.initialized "java/lang/Math", Cond.code Lib.Math.min.name Lib.Math.min.code 2 (some .int), Cond.methodLink RX2 94 yX2_hourOfDay, Cond.instanceMethod yX2_hourOfDay, Cond.selects RX2 yX2_hourOfDay yX2_hourOfDay, Cond.code yX2_hourOfDay cX2_hourOfDay 1 (some .int), Cond.methodLink RX2 105 yX4_needAt, Cond.instanceMethod yX4_needAt, Cond.selects RX4 yX4_needAt yX4_needAt, Cond.initialized RX4, Cond.code yX4_needAt cX4_needAt 2 (some .int), Cond.fieldLink RX4 22 "IrrigationDistrict$User" "from" "I", Cond.fieldLink RX4 25 "IrrigationDistrict$User" "to" "I", Cond.fieldLink RX4 19 "IrrigationDistrict$User" "need" "I", Cond.methodLink RX2 109 yX4_room, Cond.instanceMethod yX4_room, Cond.selects RX4 yX4_room yX4_room, Cond.code yX4_room cX4_room 1 (some .int), Cond.fieldLink RX4 28 "IrrigationDistrict$User" "capacity" "I", Cond.fieldLink RX4 31 "IrrigationDistrict$User" "content" "I"]
def wsX5_asks : List Cond := .code yX5_asks cX5_asks 2 (some .int) :: ((wsX5_asks_r1 ++ wsX5_asks_r2) ++ wsX50 ++ wsX20 ++ wsX40)
def wsX5_gets_r1 : List Cond := [Cond.fieldLink RX5 10 "IrrigationDistrict" "now" "LIrrigationDistrict$State;", Cond.fieldLink RX5 30 "IrrigationDistrict" "flow" "LIrrigationDistrict$Flow;", Cond.fieldLink RX5 155 "IrrigationDistrict$Flow" "got" "[I", Cond.methodLink RX5 86 yX2_hasUser, Cond.instanceMethod yX2_hasUser, Cond.selects RX2 yX2_hasUser yX2_hasUser, Cond.initialized RX2, Cond.code yX2_hasUser cX2_hasUser 2 (some .boolean), Cond.fieldLink RX2 64 "IrrigationDistrict$State" "userCount" "I", Cond.methodLink RX5 151 yX1_distribute, Cond.instanceMethod yX1_distribute, Cond.selects RX1 yX1_distribute yX1_distribute, Cond.initialized RX1, Cond.code yX1_distribute cX1_distribute 5 none, Cond.fieldLink RX1 33 "IrrigationDistrict$Flow" "supply" "I", Cond.fieldLink RX1 40 "IrrigationDistrict$State" "userCount" "I", Cond.fieldLink RX1 9 "IrrigationDistrict$Flow" "asked" "[I", Cond.fieldLink RX1 15 "IrrigationDistrict$Flow" "got" "[I", Cond.fieldLink RX1 47 "IrrigationDistrict$State" "rule" "I", Cond.fieldLink RX1 65 "IrrigationDistrict$State" "byAge" "[I", Cond.methodLink RX1 27 yX2_supplyNow, Cond.instanceMethod yX2_supplyNow, Cond.selects RX2 yX2_supplyNow yX2_supplyNow, Cond.code yX2_supplyNow cX2_supplyNow 1 (some .int)]
def wsX5_gets_r2 : List Cond := [Cond.fieldLink RX2 27 "IrrigationDistrict$State" "supply" "[I", Cond.methodLink RX2 94 yX2_hourOfDay, Cond.instanceMethod yX2_hourOfDay, Cond.selects RX2 yX2_hourOfDay yX2_hourOfDay, Cond.code yX2_hourOfDay cX2_hourOfDay 1 (some .int), Cond.fieldLink RX2 71 "IrrigationDistrict$State" "hoursPassed" "I", Cond.methodLink RX2 91 yJ9_floorMod_7cf53, Cond.static yJ9_floorMod_7cf53, Cond.initialized RJ9, Cond.code yJ9_floorMod_7cf53 cJ9_floorMod_7cf53 3 (some .int), Cond.methodLink RX1 37 yX2_userInTurn, Cond.instanceMethod yX2_userInTurn, Cond.selects RX2 yX2_userInTurn yX2_userInTurn, Cond.code yX2_userInTurn cX2_userInTurn 4 (some .int), Cond.fieldLink RX2 19 "IrrigationDistrict$State" "user" "[LIrrigationDistrict$User;", Cond.fieldLink RX2 98 "IrrigationDistrict$User" "turnHours" "I", Cond.fieldLink RX2 33 "IrrigationDistrict$State" "rule" "I", Cond.methodLink RX1 43 yX2_unitsAsked, Cond.instanceMethod yX2_unitsAsked, Cond.selects RX2 yX2_unitsAsked yX2_unitsAsked, Cond.code yX2_unitsAsked cX2_unitsAsked 5 (some .int), Cond.fieldLink RX2 101 "IrrigationDistrict$User" "shut" "Z", Cond.fieldLink RX2 112 "IrrigationDistrict$User" "right" "I", Cond.methodLink RX2 115 Lib.Math.min.name]
def wsX5_gets_r3 : List Cond := [Cond.static Lib.Math.min.name, Cond.initialized "java/lang/Math", Cond.code Lib.Math.min.name Lib.Math.min.code 2 (some .int), Cond.methodLink RX2 105 yX4_needAt, Cond.instanceMethod yX4_needAt, Cond.selects RX4 yX4_needAt yX4_needAt, Cond.initialized RX4, Cond.code yX4_needAt cX4_needAt 2 (some .int), Cond.fieldLink RX4 22 "IrrigationDistrict$User" "from" "I", Cond.fieldLink RX4 25 "IrrigationDistrict$User" "to" "I", Cond.fieldLink RX4 19 "IrrigationDistrict$User" "need" "I", Cond.methodLink RX2 109 yX4_room, Cond.instanceMethod yX4_room, Cond.selects RX4 yX4_room yX4_room, Cond.code yX4_room cX4_room 1 (some .int), Cond.fieldLink RX4 28 "IrrigationDistrict$User" "capacity" "I", Cond.fieldLink RX4 31 "IrrigationDistrict$User" "content" "I", Cond.methodLink RX1 50 yX1_giveGreatestShares, Cond.instanceMethod yX1_giveGreatestShares, Cond.selects RX1 yX1_giveGreatestShares yX1_giveGreatestShares, Cond.code yX1_giveGreatestShares cX1_giveGreatestShares 4 none, Cond.methodLink RX1 91 yX1_giveShares, Cond.instanceMethod yX1_giveShares, Cond.selects RX1 yX1_giveShares yX1_giveShares]
def wsX5_gets_r4 : List Cond := [Cond.code yX1_giveShares cX1_giveShares 4 none, Cond.methodLink RX1 54 yX1_spread, Cond.instanceMethod yX1_spread, Cond.selects RX1 yX1_spread yX1_spread, Cond.code yX1_spread cX1_spread 3 none, Cond.fieldLink RX1 77 "IrrigationDistrict$State" "ditchCount" "I", Cond.fieldLink RX1 21 "IrrigationDistrict$Flow" "passed" "[I", Cond.fieldLink RX1 68 "IrrigationDistrict$State" "user" "[LIrrigationDistrict$User;", Cond.fieldLink RX1 72 "IrrigationDistrict$User" "ditch" "I", Cond.fieldLink RX1 18 "IrrigationDistrict$Flow" "into" "[I", Cond.fieldLink RX1 80 "IrrigationDistrict$State" "ditch" "[LIrrigationDistrict$Ditch;", Cond.fieldLink RX1 88 "IrrigationDistrict$Ditch" "parent" "I", Cond.methodLink RX1 98 yX0_inflowFor, Cond.instanceMethod yX0_inflowFor, Cond.selects RX0 yX0_inflowFor yX0_inflowFor, Cond.initialized RX0, Cond.code yX0_inflowFor cX0_inflowFor 3 (some .int), Cond.fieldLink RX0 16 "IrrigationDistrict$Ditch" "loss" "I", Cond.methodLink RX1 94 yX1_isPossible, Cond.instanceMethod yX1_isPossible, Cond.selects RX1 yX1_isPossible yX1_isPossible, Cond.code yX1_isPossible cX1_isPossible 3 (some .boolean), Cond.fieldLink RX1 83 "IrrigationDistrict$Ditch" "gate" "I", Cond.methodLink RX1 57 yX2_hasUser]
def wsX5_gets_r5 : List Cond := [Cond.methodLink RX1 61 yX1_serve, Cond.instanceMethod yX1_serve, Cond.selects RX1 yX1_serve yX1_serve, Cond.code yX1_serve cX1_serve 4 none, Cond.methodLink RX1 106 Lib.Math.min.name, Cond.methodLink RX1 102 yX1_mostFor, Cond.instanceMethod yX1_mostFor, Cond.selects RX1 yX1_mostFor yX1_mostFor, Cond.code yX1_mostFor cX1_mostFor 6 (some .int), Cond.fieldLink RX1 24 "IrrigationDistrict$Flow" "most" "[I", Cond.methodLink RX1 111 yX0_passedOf, Cond.instanceMethod yX0_passedOf, Cond.selects RX0 yX0_passedOf yX0_passedOf, Cond.code yX0_passedOf cX0_passedOf 2 (some .int)]
def wsX5_gets : List Cond := .code yX5_gets cX5_gets 2 (some .int) :: ((wsX5_gets_r1 ++ (wsX5_gets_r2 ++ (wsX5_gets_r3 ++ (wsX5_gets_r4 ++ wsX5_gets_r5)))) ++ wsX50 ++ wsX10 ++ wsX20 ++ wsX40 ++ wsX00)
def wsX5_inflow_r1 : List Cond := [Cond.fieldLink RX5 10 "IrrigationDistrict" "now" "LIrrigationDistrict$State;", Cond.fieldLink RX5 30 "IrrigationDistrict" "flow" "LIrrigationDistrict$Flow;", Cond.fieldLink RX5 158 "IrrigationDistrict$Flow" "into" "[I", Cond.methodLink RX5 41 yX2_hasDitch, Cond.instanceMethod yX2_hasDitch, Cond.selects RX2 yX2_hasDitch yX2_hasDitch, Cond.initialized RX2, Cond.code yX2_hasDitch cX2_hasDitch 2 (some .boolean), Cond.fieldLink RX2 49 "IrrigationDistrict$State" "ditchCount" "I", Cond.methodLink RX5 151 yX1_distribute, Cond.instanceMethod yX1_distribute, Cond.selects RX1 yX1_distribute yX1_distribute, Cond.initialized RX1, Cond.code yX1_distribute cX1_distribute 5 none, Cond.fieldLink RX1 33 "IrrigationDistrict$Flow" "supply" "I", Cond.fieldLink RX1 40 "IrrigationDistrict$State" "userCount" "I", Cond.fieldLink RX1 9 "IrrigationDistrict$Flow" "asked" "[I", Cond.fieldLink RX1 15 "IrrigationDistrict$Flow" "got" "[I", Cond.fieldLink RX1 47 "IrrigationDistrict$State" "rule" "I", Cond.fieldLink RX1 65 "IrrigationDistrict$State" "byAge" "[I", Cond.methodLink RX1 27 yX2_supplyNow, Cond.instanceMethod yX2_supplyNow, Cond.selects RX2 yX2_supplyNow yX2_supplyNow, Cond.code yX2_supplyNow cX2_supplyNow 1 (some .int)]
def wsX5_inflow_r2 : List Cond := [Cond.fieldLink RX2 27 "IrrigationDistrict$State" "supply" "[I", Cond.methodLink RX2 94 yX2_hourOfDay, Cond.instanceMethod yX2_hourOfDay, Cond.selects RX2 yX2_hourOfDay yX2_hourOfDay, Cond.code yX2_hourOfDay cX2_hourOfDay 1 (some .int), Cond.fieldLink RX2 71 "IrrigationDistrict$State" "hoursPassed" "I", Cond.methodLink RX2 91 yJ9_floorMod_7cf53, Cond.static yJ9_floorMod_7cf53, Cond.initialized RJ9, Cond.code yJ9_floorMod_7cf53 cJ9_floorMod_7cf53 3 (some .int), Cond.methodLink RX1 37 yX2_userInTurn, Cond.instanceMethod yX2_userInTurn, Cond.selects RX2 yX2_userInTurn yX2_userInTurn, Cond.code yX2_userInTurn cX2_userInTurn 4 (some .int), Cond.fieldLink RX2 64 "IrrigationDistrict$State" "userCount" "I", Cond.fieldLink RX2 19 "IrrigationDistrict$State" "user" "[LIrrigationDistrict$User;", Cond.fieldLink RX2 98 "IrrigationDistrict$User" "turnHours" "I", Cond.fieldLink RX2 33 "IrrigationDistrict$State" "rule" "I", Cond.methodLink RX1 43 yX2_unitsAsked, Cond.instanceMethod yX2_unitsAsked, Cond.selects RX2 yX2_unitsAsked yX2_unitsAsked, Cond.code yX2_unitsAsked cX2_unitsAsked 5 (some .int), Cond.fieldLink RX2 101 "IrrigationDistrict$User" "shut" "Z", Cond.fieldLink RX2 112 "IrrigationDistrict$User" "right" "I"]
def wsX5_inflow_r3 : List Cond := [Cond.methodLink RX2 115 Lib.Math.min.name, Cond.static Lib.Math.min.name, Cond.initialized "java/lang/Math", Cond.code Lib.Math.min.name Lib.Math.min.code 2 (some .int), Cond.methodLink RX2 105 yX4_needAt, Cond.instanceMethod yX4_needAt, Cond.selects RX4 yX4_needAt yX4_needAt, Cond.initialized RX4, Cond.code yX4_needAt cX4_needAt 2 (some .int), Cond.fieldLink RX4 22 "IrrigationDistrict$User" "from" "I", Cond.fieldLink RX4 25 "IrrigationDistrict$User" "to" "I", Cond.fieldLink RX4 19 "IrrigationDistrict$User" "need" "I", Cond.methodLink RX2 109 yX4_room, Cond.instanceMethod yX4_room, Cond.selects RX4 yX4_room yX4_room, Cond.code yX4_room cX4_room 1 (some .int), Cond.fieldLink RX4 28 "IrrigationDistrict$User" "capacity" "I", Cond.fieldLink RX4 31 "IrrigationDistrict$User" "content" "I", Cond.methodLink RX1 50 yX1_giveGreatestShares, Cond.instanceMethod yX1_giveGreatestShares, Cond.selects RX1 yX1_giveGreatestShares yX1_giveGreatestShares, Cond.code yX1_giveGreatestShares cX1_giveGreatestShares 4 none, Cond.methodLink RX1 91 yX1_giveShares, Cond.instanceMethod yX1_giveShares]
def wsX5_inflow_r4 : List Cond := [Cond.selects RX1 yX1_giveShares yX1_giveShares, Cond.code yX1_giveShares cX1_giveShares 4 none, Cond.methodLink RX1 54 yX1_spread, Cond.instanceMethod yX1_spread, Cond.selects RX1 yX1_spread yX1_spread, Cond.code yX1_spread cX1_spread 3 none, Cond.fieldLink RX1 77 "IrrigationDistrict$State" "ditchCount" "I", Cond.fieldLink RX1 21 "IrrigationDistrict$Flow" "passed" "[I", Cond.fieldLink RX1 68 "IrrigationDistrict$State" "user" "[LIrrigationDistrict$User;", Cond.fieldLink RX1 72 "IrrigationDistrict$User" "ditch" "I", Cond.fieldLink RX1 18 "IrrigationDistrict$Flow" "into" "[I", Cond.fieldLink RX1 80 "IrrigationDistrict$State" "ditch" "[LIrrigationDistrict$Ditch;", Cond.fieldLink RX1 88 "IrrigationDistrict$Ditch" "parent" "I", Cond.methodLink RX1 98 yX0_inflowFor, Cond.instanceMethod yX0_inflowFor, Cond.selects RX0 yX0_inflowFor yX0_inflowFor, Cond.initialized RX0, Cond.code yX0_inflowFor cX0_inflowFor 3 (some .int), Cond.fieldLink RX0 16 "IrrigationDistrict$Ditch" "loss" "I", Cond.methodLink RX1 94 yX1_isPossible, Cond.instanceMethod yX1_isPossible, Cond.selects RX1 yX1_isPossible yX1_isPossible, Cond.code yX1_isPossible cX1_isPossible 3 (some .boolean), Cond.fieldLink RX1 83 "IrrigationDistrict$Ditch" "gate" "I"]
def wsX5_inflow_r5 : List Cond := [Cond.methodLink RX1 57 yX2_hasUser, Cond.instanceMethod yX2_hasUser, Cond.selects RX2 yX2_hasUser yX2_hasUser, Cond.code yX2_hasUser cX2_hasUser 2 (some .boolean), Cond.methodLink RX1 61 yX1_serve, Cond.instanceMethod yX1_serve, Cond.selects RX1 yX1_serve yX1_serve, Cond.code yX1_serve cX1_serve 4 none, Cond.methodLink RX1 106 Lib.Math.min.name, Cond.methodLink RX1 102 yX1_mostFor, Cond.instanceMethod yX1_mostFor, Cond.selects RX1 yX1_mostFor yX1_mostFor, Cond.code yX1_mostFor cX1_mostFor 6 (some .int), Cond.fieldLink RX1 24 "IrrigationDistrict$Flow" "most" "[I", Cond.methodLink RX1 111 yX0_passedOf, Cond.instanceMethod yX0_passedOf, Cond.selects RX0 yX0_passedOf yX0_passedOf, Cond.code yX0_passedOf cX0_passedOf 2 (some .int)]
def wsX5_inflow : List Cond := .code yX5_inflow cX5_inflow 2 (some .int) :: ((wsX5_inflow_r1 ++ (wsX5_inflow_r2 ++ (wsX5_inflow_r3 ++ (wsX5_inflow_r4 ++ wsX5_inflow_r5)))) ++ wsX50 ++ wsX10 ++ wsX20 ++ wsX40 ++ wsX00)
def wsX5_loses_r1 : List Cond := [Cond.fieldLink RX5 10 "IrrigationDistrict" "now" "LIrrigationDistrict$State;", Cond.fieldLink RX5 30 "IrrigationDistrict" "flow" "LIrrigationDistrict$Flow;", Cond.methodLink RX5 41 yX2_hasDitch, Cond.instanceMethod yX2_hasDitch, Cond.selects RX2 yX2_hasDitch yX2_hasDitch, Cond.initialized RX2, Cond.code yX2_hasDitch cX2_hasDitch 2 (some .boolean), Cond.fieldLink RX2 49 "IrrigationDistrict$State" "ditchCount" "I", Cond.methodLink RX5 151 yX1_distribute, Cond.instanceMethod yX1_distribute, Cond.selects RX1 yX1_distribute yX1_distribute, Cond.initialized RX1, Cond.code yX1_distribute cX1_distribute 5 none, Cond.fieldLink RX1 33 "IrrigationDistrict$Flow" "supply" "I", Cond.fieldLink RX1 40 "IrrigationDistrict$State" "userCount" "I", Cond.fieldLink RX1 9 "IrrigationDistrict$Flow" "asked" "[I", Cond.fieldLink RX1 15 "IrrigationDistrict$Flow" "got" "[I", Cond.fieldLink RX1 47 "IrrigationDistrict$State" "rule" "I", Cond.fieldLink RX1 65 "IrrigationDistrict$State" "byAge" "[I", Cond.methodLink RX1 27 yX2_supplyNow, Cond.instanceMethod yX2_supplyNow, Cond.selects RX2 yX2_supplyNow yX2_supplyNow, Cond.code yX2_supplyNow cX2_supplyNow 1 (some .int), Cond.fieldLink RX2 27 "IrrigationDistrict$State" "supply" "[I"]
def wsX5_loses_r2 : List Cond := [Cond.methodLink RX2 94 yX2_hourOfDay, Cond.instanceMethod yX2_hourOfDay, Cond.selects RX2 yX2_hourOfDay yX2_hourOfDay, Cond.code yX2_hourOfDay cX2_hourOfDay 1 (some .int), Cond.fieldLink RX2 71 "IrrigationDistrict$State" "hoursPassed" "I", Cond.methodLink RX2 91 yJ9_floorMod_7cf53, Cond.static yJ9_floorMod_7cf53, Cond.initialized RJ9, Cond.code yJ9_floorMod_7cf53 cJ9_floorMod_7cf53 3 (some .int), Cond.methodLink RX1 37 yX2_userInTurn, Cond.instanceMethod yX2_userInTurn, Cond.selects RX2 yX2_userInTurn yX2_userInTurn, Cond.code yX2_userInTurn cX2_userInTurn 4 (some .int), Cond.fieldLink RX2 64 "IrrigationDistrict$State" "userCount" "I", Cond.fieldLink RX2 19 "IrrigationDistrict$State" "user" "[LIrrigationDistrict$User;", Cond.fieldLink RX2 98 "IrrigationDistrict$User" "turnHours" "I", Cond.fieldLink RX2 33 "IrrigationDistrict$State" "rule" "I", Cond.methodLink RX1 43 yX2_unitsAsked, Cond.instanceMethod yX2_unitsAsked, Cond.selects RX2 yX2_unitsAsked yX2_unitsAsked, Cond.code yX2_unitsAsked cX2_unitsAsked 5 (some .int), Cond.fieldLink RX2 101 "IrrigationDistrict$User" "shut" "Z", Cond.fieldLink RX2 112 "IrrigationDistrict$User" "right" "I", Cond.methodLink RX2 115 Lib.Math.min.name]
def wsX5_loses_r3 : List Cond := [Cond.static Lib.Math.min.name, Cond.initialized "java/lang/Math", Cond.code Lib.Math.min.name Lib.Math.min.code 2 (some .int), Cond.methodLink RX2 105 yX4_needAt, Cond.instanceMethod yX4_needAt, Cond.selects RX4 yX4_needAt yX4_needAt, Cond.initialized RX4, Cond.code yX4_needAt cX4_needAt 2 (some .int), Cond.fieldLink RX4 22 "IrrigationDistrict$User" "from" "I", Cond.fieldLink RX4 25 "IrrigationDistrict$User" "to" "I", Cond.fieldLink RX4 19 "IrrigationDistrict$User" "need" "I", Cond.methodLink RX2 109 yX4_room, Cond.instanceMethod yX4_room, Cond.selects RX4 yX4_room yX4_room, Cond.code yX4_room cX4_room 1 (some .int), Cond.fieldLink RX4 28 "IrrigationDistrict$User" "capacity" "I", Cond.fieldLink RX4 31 "IrrigationDistrict$User" "content" "I", Cond.methodLink RX1 50 yX1_giveGreatestShares, Cond.instanceMethod yX1_giveGreatestShares, Cond.selects RX1 yX1_giveGreatestShares yX1_giveGreatestShares, Cond.code yX1_giveGreatestShares cX1_giveGreatestShares 4 none, Cond.methodLink RX1 91 yX1_giveShares, Cond.instanceMethod yX1_giveShares, Cond.selects RX1 yX1_giveShares yX1_giveShares]
def wsX5_loses_r4 : List Cond := [Cond.code yX1_giveShares cX1_giveShares 4 none, Cond.methodLink RX1 54 yX1_spread, Cond.instanceMethod yX1_spread, Cond.selects RX1 yX1_spread yX1_spread, Cond.code yX1_spread cX1_spread 3 none, Cond.fieldLink RX1 77 "IrrigationDistrict$State" "ditchCount" "I", Cond.fieldLink RX1 21 "IrrigationDistrict$Flow" "passed" "[I", Cond.fieldLink RX1 68 "IrrigationDistrict$State" "user" "[LIrrigationDistrict$User;", Cond.fieldLink RX1 72 "IrrigationDistrict$User" "ditch" "I", Cond.fieldLink RX1 18 "IrrigationDistrict$Flow" "into" "[I", Cond.fieldLink RX1 80 "IrrigationDistrict$State" "ditch" "[LIrrigationDistrict$Ditch;", Cond.fieldLink RX1 88 "IrrigationDistrict$Ditch" "parent" "I", Cond.methodLink RX1 98 yX0_inflowFor, Cond.instanceMethod yX0_inflowFor, Cond.selects RX0 yX0_inflowFor yX0_inflowFor, Cond.initialized RX0, Cond.code yX0_inflowFor cX0_inflowFor 3 (some .int), Cond.fieldLink RX0 16 "IrrigationDistrict$Ditch" "loss" "I", Cond.methodLink RX1 94 yX1_isPossible, Cond.instanceMethod yX1_isPossible, Cond.selects RX1 yX1_isPossible yX1_isPossible, Cond.code yX1_isPossible cX1_isPossible 3 (some .boolean), Cond.fieldLink RX1 83 "IrrigationDistrict$Ditch" "gate" "I", Cond.methodLink RX1 57 yX2_hasUser]
def wsX5_loses_r5 : List Cond := [Cond.instanceMethod yX2_hasUser, Cond.selects RX2 yX2_hasUser yX2_hasUser, Cond.code yX2_hasUser cX2_hasUser 2 (some .boolean), Cond.methodLink RX1 61 yX1_serve, Cond.instanceMethod yX1_serve, Cond.selects RX1 yX1_serve yX1_serve, Cond.code yX1_serve cX1_serve 4 none, Cond.methodLink RX1 106 Lib.Math.min.name, Cond.methodLink RX1 102 yX1_mostFor, Cond.instanceMethod yX1_mostFor, Cond.selects RX1 yX1_mostFor yX1_mostFor, Cond.code yX1_mostFor cX1_mostFor 6 (some .int), Cond.fieldLink RX1 24 "IrrigationDistrict$Flow" "most" "[I", Cond.methodLink RX1 111 yX0_passedOf, Cond.instanceMethod yX0_passedOf, Cond.selects RX0 yX0_passedOf yX0_passedOf, Cond.code yX0_passedOf cX0_passedOf 2 (some .int), Cond.methodLink RX5 161 yX1_lostIn, Cond.instanceMethod yX1_lostIn, Cond.selects RX1 yX1_lostIn yX1_lostIn, Cond.code yX1_lostIn cX1_lostIn 2 (some .int)]
def wsX5_loses : List Cond := .code yX5_loses cX5_loses 2 (some .int) :: ((wsX5_loses_r1 ++ (wsX5_loses_r2 ++ (wsX5_loses_r3 ++ (wsX5_loses_r4 ++ wsX5_loses_r5)))) ++ wsX50 ++ wsX20 ++ wsX10 ++ wsX40 ++ wsX00)
def wsX5_turn : List Cond := .code yX5_turn cX5_turn 1 (some .int) :: ([.fieldLink RX5 10 "IrrigationDistrict" "now" "LIrrigationDistrict$State;", .methodLink RX5 144 yX2_userInTurn, .instanceMethod yX2_userInTurn, .selects RX2 yX2_userInTurn yX2_userInTurn, .initialized RX2, .code yX2_userInTurn cX2_userInTurn 4 (some .int), .fieldLink RX2 64 "IrrigationDistrict$State" "userCount" "I", .fieldLink RX2 19 "IrrigationDistrict$State" "user" "[LIrrigationDistrict$User;", .fieldLink RX2 98 "IrrigationDistrict$User" "turnHours" "I", .fieldLink RX2 33 "IrrigationDistrict$State" "rule" "I", .fieldLink RX2 71 "IrrigationDistrict$State" "hoursPassed" "I", .methodLink RX2 91 yJ9_floorMod_7cf53, .static yJ9_floorMod_7cf53, .initialized RJ9, .code yJ9_floorMod_7cf53 cJ9_floorMod_7cf53 3 (some .int)] ++ wsX50 ++ wsX20 ++ wsX40)
def wsX5_limit_r1 : List Cond := [Cond.fieldLink RX5 10 "IrrigationDistrict" "now" "LIrrigationDistrict$State;", Cond.fieldLink RX5 30 "IrrigationDistrict" "flow" "LIrrigationDistrict$Flow;", Cond.methodLink RX5 86 yX2_hasUser, Cond.instanceMethod yX2_hasUser, Cond.selects RX2 yX2_hasUser yX2_hasUser, Cond.initialized RX2, Cond.code yX2_hasUser cX2_hasUser 2 (some .boolean), Cond.fieldLink RX2 64 "IrrigationDistrict$State" "userCount" "I", Cond.methodLink RX5 151 yX1_distribute, Cond.instanceMethod yX1_distribute, Cond.selects RX1 yX1_distribute yX1_distribute, Cond.initialized RX1, Cond.code yX1_distribute cX1_distribute 5 none, Cond.fieldLink RX1 33 "IrrigationDistrict$Flow" "supply" "I", Cond.fieldLink RX1 40 "IrrigationDistrict$State" "userCount" "I", Cond.fieldLink RX1 9 "IrrigationDistrict$Flow" "asked" "[I", Cond.fieldLink RX1 15 "IrrigationDistrict$Flow" "got" "[I", Cond.fieldLink RX1 47 "IrrigationDistrict$State" "rule" "I", Cond.fieldLink RX1 65 "IrrigationDistrict$State" "byAge" "[I", Cond.methodLink RX1 27 yX2_supplyNow, Cond.instanceMethod yX2_supplyNow, Cond.selects RX2 yX2_supplyNow yX2_supplyNow, Cond.code yX2_supplyNow cX2_supplyNow 1 (some .int), Cond.fieldLink RX2 27 "IrrigationDistrict$State" "supply" "[I"]
def wsX5_limit_r2 : List Cond := [Cond.methodLink RX2 94 yX2_hourOfDay, Cond.instanceMethod yX2_hourOfDay, Cond.selects RX2 yX2_hourOfDay yX2_hourOfDay, Cond.code yX2_hourOfDay cX2_hourOfDay 1 (some .int), Cond.fieldLink RX2 71 "IrrigationDistrict$State" "hoursPassed" "I", Cond.methodLink RX2 91 yJ9_floorMod_7cf53, Cond.static yJ9_floorMod_7cf53, Cond.initialized RJ9, Cond.code yJ9_floorMod_7cf53 cJ9_floorMod_7cf53 3 (some .int), Cond.methodLink RX1 37 yX2_userInTurn, Cond.instanceMethod yX2_userInTurn, Cond.selects RX2 yX2_userInTurn yX2_userInTurn, Cond.code yX2_userInTurn cX2_userInTurn 4 (some .int), Cond.fieldLink RX2 19 "IrrigationDistrict$State" "user" "[LIrrigationDistrict$User;", Cond.fieldLink RX2 98 "IrrigationDistrict$User" "turnHours" "I", Cond.fieldLink RX2 33 "IrrigationDistrict$State" "rule" "I", Cond.methodLink RX1 43 yX2_unitsAsked, Cond.instanceMethod yX2_unitsAsked, Cond.selects RX2 yX2_unitsAsked yX2_unitsAsked, Cond.code yX2_unitsAsked cX2_unitsAsked 5 (some .int), Cond.fieldLink RX2 101 "IrrigationDistrict$User" "shut" "Z", Cond.fieldLink RX2 112 "IrrigationDistrict$User" "right" "I", Cond.methodLink RX2 115 Lib.Math.min.name, Cond.static Lib.Math.min.name]
def wsX5_limit_r3 : List Cond := [Cond.initialized "java/lang/Math", Cond.code Lib.Math.min.name Lib.Math.min.code 2 (some .int), Cond.methodLink RX2 105 yX4_needAt, Cond.instanceMethod yX4_needAt, Cond.selects RX4 yX4_needAt yX4_needAt, Cond.initialized RX4, Cond.code yX4_needAt cX4_needAt 2 (some .int), Cond.fieldLink RX4 22 "IrrigationDistrict$User" "from" "I", Cond.fieldLink RX4 25 "IrrigationDistrict$User" "to" "I", Cond.fieldLink RX4 19 "IrrigationDistrict$User" "need" "I", Cond.methodLink RX2 109 yX4_room, Cond.instanceMethod yX4_room, Cond.selects RX4 yX4_room yX4_room, Cond.code yX4_room cX4_room 1 (some .int), Cond.fieldLink RX4 28 "IrrigationDistrict$User" "capacity" "I", Cond.fieldLink RX4 31 "IrrigationDistrict$User" "content" "I", Cond.methodLink RX1 50 yX1_giveGreatestShares, Cond.instanceMethod yX1_giveGreatestShares, Cond.selects RX1 yX1_giveGreatestShares yX1_giveGreatestShares, Cond.code yX1_giveGreatestShares cX1_giveGreatestShares 4 none, Cond.methodLink RX1 91 yX1_giveShares, Cond.instanceMethod yX1_giveShares, Cond.selects RX1 yX1_giveShares yX1_giveShares, Cond.code yX1_giveShares cX1_giveShares 4 none]
def wsX5_limit_r4 : List Cond := [Cond.methodLink RX1 54 yX1_spread, Cond.instanceMethod yX1_spread, Cond.selects RX1 yX1_spread yX1_spread, Cond.code yX1_spread cX1_spread 3 none, Cond.fieldLink RX1 77 "IrrigationDistrict$State" "ditchCount" "I", Cond.fieldLink RX1 21 "IrrigationDistrict$Flow" "passed" "[I", Cond.fieldLink RX1 68 "IrrigationDistrict$State" "user" "[LIrrigationDistrict$User;", Cond.fieldLink RX1 72 "IrrigationDistrict$User" "ditch" "I", Cond.fieldLink RX1 18 "IrrigationDistrict$Flow" "into" "[I", Cond.fieldLink RX1 80 "IrrigationDistrict$State" "ditch" "[LIrrigationDistrict$Ditch;", Cond.fieldLink RX1 88 "IrrigationDistrict$Ditch" "parent" "I", Cond.methodLink RX1 98 yX0_inflowFor, Cond.instanceMethod yX0_inflowFor, Cond.selects RX0 yX0_inflowFor yX0_inflowFor, Cond.initialized RX0, Cond.code yX0_inflowFor cX0_inflowFor 3 (some .int), Cond.fieldLink RX0 16 "IrrigationDistrict$Ditch" "loss" "I", Cond.methodLink RX1 94 yX1_isPossible, Cond.instanceMethod yX1_isPossible, Cond.selects RX1 yX1_isPossible yX1_isPossible, Cond.code yX1_isPossible cX1_isPossible 3 (some .boolean), Cond.fieldLink RX1 83 "IrrigationDistrict$Ditch" "gate" "I", Cond.methodLink RX1 57 yX2_hasUser, Cond.methodLink RX1 61 yX1_serve]
def wsX5_limit_r5 : List Cond := [Cond.instanceMethod yX1_serve, Cond.selects RX1 yX1_serve yX1_serve, Cond.code yX1_serve cX1_serve 4 none, Cond.methodLink RX1 106 Lib.Math.min.name, Cond.methodLink RX1 102 yX1_mostFor, Cond.instanceMethod yX1_mostFor, Cond.selects RX1 yX1_mostFor yX1_mostFor, Cond.code yX1_mostFor cX1_mostFor 6 (some .int), Cond.fieldLink RX1 24 "IrrigationDistrict$Flow" "most" "[I", Cond.methodLink RX1 111 yX0_passedOf, Cond.instanceMethod yX0_passedOf, Cond.selects RX0 yX0_passedOf yX0_passedOf, Cond.code yX0_passedOf cX0_passedOf 2 (some .int), Cond.methodLink RX5 165 yX1_isContent, Cond.instanceMethod yX1_isContent, Cond.selects RX1 yX1_isContent yX1_isContent, Cond.code yX1_isContent cX1_isContent 2 (some .boolean), Cond.methodLink RX5 168 yX1_ditchAgainstOneMore, Cond.instanceMethod yX1_ditchAgainstOneMore, Cond.selects RX1 yX1_ditchAgainstOneMore yX1_ditchAgainstOneMore, Cond.code yX1_ditchAgainstOneMore cX1_ditchAgainstOneMore 5 (some .int)]
def wsX5_limit : List Cond := .code yX5_limit cX5_limit 2 (some .int) :: ((wsX5_limit_r1 ++ (wsX5_limit_r2 ++ (wsX5_limit_r3 ++ (wsX5_limit_r4 ++ wsX5_limit_r5)))) ++ wsX50 ++ wsX20 ++ wsX10 ++ wsX40 ++ wsX00)
def wsX5_unitsGotInTrial_r1 : List Cond := [Cond.fieldLink RX5 16 "IrrigationDistrict" "trial" "LIrrigationDistrict$State;", Cond.fieldLink RX5 61 "IrrigationDistrict$State" "ditch" "[LIrrigationDistrict$Ditch;", Cond.fieldLink RX5 65 "IrrigationDistrict$Ditch" "gate" "I", Cond.fieldLink RX5 30 "IrrigationDistrict" "flow" "LIrrigationDistrict$Flow;", Cond.methodLink RX5 151 yX1_distribute, Cond.instanceMethod yX1_distribute, Cond.selects RX1 yX1_distribute yX1_distribute, Cond.initialized RX1, Cond.code yX1_distribute cX1_distribute 5 none, Cond.fieldLink RX1 33 "IrrigationDistrict$Flow" "supply" "I", Cond.fieldLink RX1 40 "IrrigationDistrict$State" "userCount" "I", Cond.fieldLink RX1 9 "IrrigationDistrict$Flow" "asked" "[I", Cond.fieldLink RX1 15 "IrrigationDistrict$Flow" "got" "[I", Cond.fieldLink RX1 47 "IrrigationDistrict$State" "rule" "I", Cond.fieldLink RX1 65 "IrrigationDistrict$State" "byAge" "[I", Cond.methodLink RX1 27 yX2_supplyNow, Cond.instanceMethod yX2_supplyNow, Cond.selects RX2 yX2_supplyNow yX2_supplyNow, Cond.initialized RX2, Cond.code yX2_supplyNow cX2_supplyNow 1 (some .int), Cond.fieldLink RX2 27 "IrrigationDistrict$State" "supply" "[I", Cond.methodLink RX2 94 yX2_hourOfDay, Cond.instanceMethod yX2_hourOfDay, Cond.selects RX2 yX2_hourOfDay yX2_hourOfDay]
def wsX5_unitsGotInTrial_r2 : List Cond := [Cond.code yX2_hourOfDay cX2_hourOfDay 1 (some .int), Cond.fieldLink RX2 71 "IrrigationDistrict$State" "hoursPassed" "I", Cond.methodLink RX2 91 yJ9_floorMod_7cf53, Cond.static yJ9_floorMod_7cf53, Cond.initialized RJ9, Cond.code yJ9_floorMod_7cf53 cJ9_floorMod_7cf53 3 (some .int), Cond.methodLink RX1 37 yX2_userInTurn, Cond.instanceMethod yX2_userInTurn, Cond.selects RX2 yX2_userInTurn yX2_userInTurn, Cond.code yX2_userInTurn cX2_userInTurn 4 (some .int), Cond.fieldLink RX2 64 "IrrigationDistrict$State" "userCount" "I", Cond.fieldLink RX2 19 "IrrigationDistrict$State" "user" "[LIrrigationDistrict$User;", Cond.fieldLink RX2 98 "IrrigationDistrict$User" "turnHours" "I", Cond.fieldLink RX2 33 "IrrigationDistrict$State" "rule" "I", Cond.methodLink RX1 43 yX2_unitsAsked, Cond.instanceMethod yX2_unitsAsked, Cond.selects RX2 yX2_unitsAsked yX2_unitsAsked, Cond.code yX2_unitsAsked cX2_unitsAsked 5 (some .int), Cond.fieldLink RX2 101 "IrrigationDistrict$User" "shut" "Z", Cond.fieldLink RX2 112 "IrrigationDistrict$User" "right" "I", Cond.methodLink RX2 115 Lib.Math.min.name, Cond.static Lib.Math.min.name, Cond.initialized "java/lang/Math", Cond.code Lib.Math.min.name Lib.Math.min.code 2 (some .int)]
def wsX5_unitsGotInTrial_r3 : List Cond := [Cond.methodLink RX2 105 yX4_needAt, Cond.instanceMethod yX4_needAt, Cond.selects RX4 yX4_needAt yX4_needAt, Cond.initialized RX4, Cond.code yX4_needAt cX4_needAt 2 (some .int), Cond.fieldLink RX4 22 "IrrigationDistrict$User" "from" "I", Cond.fieldLink RX4 25 "IrrigationDistrict$User" "to" "I", Cond.fieldLink RX4 19 "IrrigationDistrict$User" "need" "I", Cond.methodLink RX2 109 yX4_room, Cond.instanceMethod yX4_room, Cond.selects RX4 yX4_room yX4_room, Cond.code yX4_room cX4_room 1 (some .int), Cond.fieldLink RX4 28 "IrrigationDistrict$User" "capacity" "I", Cond.fieldLink RX4 31 "IrrigationDistrict$User" "content" "I", Cond.methodLink RX1 50 yX1_giveGreatestShares, Cond.instanceMethod yX1_giveGreatestShares, Cond.selects RX1 yX1_giveGreatestShares yX1_giveGreatestShares, Cond.code yX1_giveGreatestShares cX1_giveGreatestShares 4 none, Cond.methodLink RX1 91 yX1_giveShares, Cond.instanceMethod yX1_giveShares, Cond.selects RX1 yX1_giveShares yX1_giveShares, Cond.code yX1_giveShares cX1_giveShares 4 none, Cond.methodLink RX1 54 yX1_spread, Cond.instanceMethod yX1_spread]
def wsX5_unitsGotInTrial_r4 : List Cond := [Cond.selects RX1 yX1_spread yX1_spread, Cond.code yX1_spread cX1_spread 3 none, Cond.fieldLink RX1 77 "IrrigationDistrict$State" "ditchCount" "I", Cond.fieldLink RX1 21 "IrrigationDistrict$Flow" "passed" "[I", Cond.fieldLink RX1 68 "IrrigationDistrict$State" "user" "[LIrrigationDistrict$User;", Cond.fieldLink RX1 72 "IrrigationDistrict$User" "ditch" "I", Cond.fieldLink RX1 18 "IrrigationDistrict$Flow" "into" "[I", Cond.fieldLink RX1 80 "IrrigationDistrict$State" "ditch" "[LIrrigationDistrict$Ditch;", Cond.fieldLink RX1 88 "IrrigationDistrict$Ditch" "parent" "I", Cond.methodLink RX1 98 yX0_inflowFor, Cond.instanceMethod yX0_inflowFor, Cond.selects RX0 yX0_inflowFor yX0_inflowFor, Cond.initialized RX0, Cond.code yX0_inflowFor cX0_inflowFor 3 (some .int), Cond.fieldLink RX0 16 "IrrigationDistrict$Ditch" "loss" "I", Cond.methodLink RX1 94 yX1_isPossible, Cond.instanceMethod yX1_isPossible, Cond.selects RX1 yX1_isPossible yX1_isPossible, Cond.code yX1_isPossible cX1_isPossible 3 (some .boolean), Cond.fieldLink RX1 83 "IrrigationDistrict$Ditch" "gate" "I", Cond.methodLink RX1 57 yX2_hasUser, Cond.instanceMethod yX2_hasUser, Cond.selects RX2 yX2_hasUser yX2_hasUser, Cond.code yX2_hasUser cX2_hasUser 2 (some .boolean)]
def wsX5_unitsGotInTrial_r5 : List Cond := [Cond.methodLink RX1 61 yX1_serve, Cond.instanceMethod yX1_serve, Cond.selects RX1 yX1_serve yX1_serve, Cond.code yX1_serve cX1_serve 4 none, Cond.methodLink RX1 106 Lib.Math.min.name, Cond.methodLink RX1 102 yX1_mostFor, Cond.instanceMethod yX1_mostFor, Cond.selects RX1 yX1_mostFor yX1_mostFor, Cond.code yX1_mostFor cX1_mostFor 6 (some .int), Cond.fieldLink RX1 24 "IrrigationDistrict$Flow" "most" "[I", Cond.methodLink RX1 111 yX0_passedOf, Cond.instanceMethod yX0_passedOf, Cond.selects RX0 yX0_passedOf yX0_passedOf, Cond.code yX0_passedOf cX0_passedOf 2 (some .int), Cond.methodLink RX5 237 yX1_unitsGot, Cond.instanceMethod yX1_unitsGot, Cond.selects RX1 yX1_unitsGot yX1_unitsGot, Cond.code yX1_unitsGot cX1_unitsGot 4 (some .int)]
def wsX5_unitsGotInTrial : List Cond := .code yX5_unitsGotInTrial cX5_unitsGotInTrial 3 (some .int) :: ((wsX5_unitsGotInTrial_r1 ++ (wsX5_unitsGotInTrial_r2 ++ (wsX5_unitsGotInTrial_r3 ++ (wsX5_unitsGotInTrial_r4 ++ wsX5_unitsGotInTrial_r5)))) ++ wsX50 ++ wsX20 ++ wsX00 ++ wsX10 ++ wsX40)
def wsX5_usefulGate_r1 : List Cond := [Cond.fieldLink RX5 10 "IrrigationDistrict" "now" "LIrrigationDistrict$State;", Cond.fieldLink RX5 16 "IrrigationDistrict" "trial" "LIrrigationDistrict$State;", Cond.methodLink RX5 41 yX2_hasDitch, Cond.instanceMethod yX2_hasDitch, Cond.selects RX2 yX2_hasDitch yX2_hasDitch, Cond.initialized RX2, Cond.code yX2_hasDitch cX2_hasDitch 2 (some .boolean), Cond.fieldLink RX2 49 "IrrigationDistrict$State" "ditchCount" "I", Cond.methodLink RX5 172 yX2_copyFrom, Cond.instanceMethod yX2_copyFrom, Cond.selects RX2 yX2_copyFrom yX2_copyFrom, Cond.code yX2_copyFrom cX2_copyFrom 4 none, Cond.fieldLink RX2 11 "IrrigationDistrict$State" "ditch" "[LIrrigationDistrict$Ditch;", Cond.fieldLink RX2 52 "IrrigationDistrict$Ditch" "parent" "I", Cond.fieldLink RX2 55 "IrrigationDistrict$Ditch" "gate" "I", Cond.fieldLink RX2 58 "IrrigationDistrict$Ditch" "loss" "I", Cond.fieldLink RX2 64 "IrrigationDistrict$State" "userCount" "I", Cond.fieldLink RX2 19 "IrrigationDistrict$State" "user" "[LIrrigationDistrict$User;", Cond.fieldLink RX2 23 "IrrigationDistrict$State" "byAge" "[I", Cond.fieldLink RX2 27 "IrrigationDistrict$State" "supply" "[I", Cond.fieldLink RX2 30 "IrrigationDistrict$State" "sums" "[I", Cond.fieldLink RX2 33 "IrrigationDistrict$State" "rule" "I", Cond.fieldLink RX2 37 "IrrigationDistrict$State" "futilePercent" "I", Cond.fieldLink RX2 71 "IrrigationDistrict$State" "hoursPassed" "I"]
def wsX5_usefulGate_r2 : List Cond := [Cond.methodLink RX2 61 yX0_begin, Cond.instanceMethod yX0_begin, Cond.selects RX0 yX0_begin yX0_begin, Cond.initialized RX0, Cond.code yX0_begin cX0_begin 4 none, Cond.fieldLink RX0 7 "IrrigationDistrict$Ditch" "parent" "I", Cond.fieldLink RX0 13 "IrrigationDistrict$Ditch" "gate" "I", Cond.fieldLink RX0 16 "IrrigationDistrict$Ditch" "loss" "I", Cond.methodLink RX2 67 yX4_copyFrom, Cond.instanceMethod yX4_copyFrom, Cond.selects RX4 yX4_copyFrom yX4_copyFrom, Cond.initialized RX4, Cond.code yX4_copyFrom cX4_copyFrom 2 none, Cond.fieldLink RX4 7 "IrrigationDistrict$User" "ditch" "I", Cond.fieldLink RX4 13 "IrrigationDistrict$User" "year" "I", Cond.fieldLink RX4 16 "IrrigationDistrict$User" "right" "I", Cond.fieldLink RX4 19 "IrrigationDistrict$User" "need" "I", Cond.fieldLink RX4 22 "IrrigationDistrict$User" "from" "I", Cond.fieldLink RX4 25 "IrrigationDistrict$User" "to" "I", Cond.fieldLink RX4 28 "IrrigationDistrict$User" "capacity" "I", Cond.fieldLink RX4 31 "IrrigationDistrict$User" "content" "I", Cond.fieldLink RX4 34 "IrrigationDistrict$User" "leak" "I", Cond.fieldLink RX4 37 "IrrigationDistrict$User" "turnHours" "I", Cond.fieldLink RX4 40 "IrrigationDistrict$User" "unitsMissed" "I"]
def wsX5_usefulGate_r3 : List Cond := [Cond.fieldLink RX4 43 "IrrigationDistrict$User" "shut" "Z", Cond.methodLink RX4 47 yX4_begin, Cond.instanceMethod yX4_begin, Cond.selects RX4 yX4_begin yX4_begin, Cond.code yX4_begin cX4_begin 4 none, Cond.methodLink RX5 178 yX5_unitsGotInTrial, Cond.instanceMethod yX5_unitsGotInTrial, Cond.selects RX5 yX5_unitsGotInTrial yX5_unitsGotInTrial, Cond.initialized RX5, Cond.code yX5_unitsGotInTrial cX5_unitsGotInTrial 3 (some .int), Cond.fieldLink RX5 61 "IrrigationDistrict$State" "ditch" "[LIrrigationDistrict$Ditch;", Cond.fieldLink RX5 65 "IrrigationDistrict$Ditch" "gate" "I", Cond.fieldLink RX5 30 "IrrigationDistrict" "flow" "LIrrigationDistrict$Flow;", Cond.methodLink RX5 151 yX1_distribute, Cond.instanceMethod yX1_distribute, Cond.selects RX1 yX1_distribute yX1_distribute, Cond.initialized RX1, Cond.code yX1_distribute cX1_distribute 5 none, Cond.fieldLink RX1 33 "IrrigationDistrict$Flow" "supply" "I", Cond.fieldLink RX1 40 "IrrigationDistrict$State" "userCount" "I", Cond.fieldLink RX1 9 "IrrigationDistrict$Flow" "asked" "[I", Cond.fieldLink RX1 15 "IrrigationDistrict$Flow" "got" "[I", Cond.fieldLink RX1 47 "IrrigationDistrict$State" "rule" "I", Cond.fieldLink RX1 65 "IrrigationDistrict$State" "byAge" "[I"]
def wsX5_usefulGate_r4 : List Cond := [Cond.methodLink RX1 27 yX2_supplyNow, Cond.instanceMethod yX2_supplyNow, Cond.selects RX2 yX2_supplyNow yX2_supplyNow, Cond.code yX2_supplyNow cX2_supplyNow 1 (some .int), Cond.methodLink RX2 94 yX2_hourOfDay, Cond.instanceMethod yX2_hourOfDay, Cond.selects RX2 yX2_hourOfDay yX2_hourOfDay, Cond.code yX2_hourOfDay cX2_hourOfDay 1 (some .int), Cond.methodLink RX2 91 yJ9_floorMod_7cf53, Cond.static yJ9_floorMod_7cf53, Cond.initialized RJ9, Cond.code yJ9_floorMod_7cf53 cJ9_floorMod_7cf53 3 (some .int), Cond.methodLink RX1 37 yX2_userInTurn, Cond.instanceMethod yX2_userInTurn, Cond.selects RX2 yX2_userInTurn yX2_userInTurn, Cond.code yX2_userInTurn cX2_userInTurn 4 (some .int), Cond.fieldLink RX2 98 "IrrigationDistrict$User" "turnHours" "I", Cond.methodLink RX1 43 yX2_unitsAsked, Cond.instanceMethod yX2_unitsAsked, Cond.selects RX2 yX2_unitsAsked yX2_unitsAsked, Cond.code yX2_unitsAsked cX2_unitsAsked 5 (some .int), Cond.fieldLink RX2 101 "IrrigationDistrict$User" "shut" "Z", Cond.fieldLink RX2 112 "IrrigationDistrict$User" "right" "I", Cond.methodLink RX2 115 Lib.Math.min.name]
def wsX5_usefulGate_r5 : List Cond := [Cond.static Lib.Math.min.name, Cond.initialized "java/lang/Math", Cond.code Lib.Math.min.name Lib.Math.min.code 2 (some .int), Cond.methodLink RX2 105 yX4_needAt, Cond.instanceMethod yX4_needAt, Cond.selects RX4 yX4_needAt yX4_needAt, Cond.code yX4_needAt cX4_needAt 2 (some .int), Cond.methodLink RX2 109 yX4_room, Cond.instanceMethod yX4_room, Cond.selects RX4 yX4_room yX4_room, Cond.code yX4_room cX4_room 1 (some .int), Cond.methodLink RX1 50 yX1_giveGreatestShares, Cond.instanceMethod yX1_giveGreatestShares, Cond.selects RX1 yX1_giveGreatestShares yX1_giveGreatestShares, Cond.code yX1_giveGreatestShares cX1_giveGreatestShares 4 none, Cond.methodLink RX1 91 yX1_giveShares, Cond.instanceMethod yX1_giveShares, Cond.selects RX1 yX1_giveShares yX1_giveShares, Cond.code yX1_giveShares cX1_giveShares 4 none, Cond.methodLink RX1 54 yX1_spread, Cond.instanceMethod yX1_spread, Cond.selects RX1 yX1_spread yX1_spread, Cond.code yX1_spread cX1_spread 3 none, Cond.fieldLink RX1 77 "IrrigationDistrict$State" "ditchCount" "I"]
def wsX5_usefulGate_r6 : List Cond := [Cond.fieldLink RX1 21 "IrrigationDistrict$Flow" "passed" "[I", Cond.fieldLink RX1 68 "IrrigationDistrict$State" "user" "[LIrrigationDistrict$User;", Cond.fieldLink RX1 72 "IrrigationDistrict$User" "ditch" "I", Cond.fieldLink RX1 18 "IrrigationDistrict$Flow" "into" "[I", Cond.fieldLink RX1 80 "IrrigationDistrict$State" "ditch" "[LIrrigationDistrict$Ditch;", Cond.fieldLink RX1 88 "IrrigationDistrict$Ditch" "parent" "I", Cond.methodLink RX1 98 yX0_inflowFor, Cond.instanceMethod yX0_inflowFor, Cond.selects RX0 yX0_inflowFor yX0_inflowFor, Cond.code yX0_inflowFor cX0_inflowFor 3 (some .int), Cond.methodLink RX1 94 yX1_isPossible, Cond.instanceMethod yX1_isPossible, Cond.selects RX1 yX1_isPossible yX1_isPossible, Cond.code yX1_isPossible cX1_isPossible 3 (some .boolean), Cond.fieldLink RX1 83 "IrrigationDistrict$Ditch" "gate" "I", Cond.methodLink RX1 57 yX2_hasUser, Cond.instanceMethod yX2_hasUser, Cond.selects RX2 yX2_hasUser yX2_hasUser, Cond.code yX2_hasUser cX2_hasUser 2 (some .boolean), Cond.methodLink RX1 61 yX1_serve, Cond.instanceMethod yX1_serve, Cond.selects RX1 yX1_serve yX1_serve, Cond.code yX1_serve cX1_serve 4 none, Cond.methodLink RX1 106 Lib.Math.min.name]
def wsX5_usefulGate_r7 : List Cond := [Cond.methodLink RX1 102 yX1_mostFor, Cond.instanceMethod yX1_mostFor, Cond.selects RX1 yX1_mostFor yX1_mostFor, Cond.code yX1_mostFor cX1_mostFor 6 (some .int), Cond.fieldLink RX1 24 "IrrigationDistrict$Flow" "most" "[I", Cond.methodLink RX1 111 yX0_passedOf, Cond.instanceMethod yX0_passedOf, Cond.selects RX0 yX0_passedOf yX0_passedOf, Cond.code yX0_passedOf cX0_passedOf 2 (some .int), Cond.methodLink RX5 237 yX1_unitsGot, Cond.instanceMethod yX1_unitsGot, Cond.selects RX1 yX1_unitsGot yX1_unitsGot, Cond.code yX1_unitsGot cX1_unitsGot 4 (some .int)]
def wsX5_usefulGate : List Cond := .code yX5_usefulGate cX5_usefulGate 4 (some .int) :: ((wsX5_usefulGate_r1 ++ (wsX5_usefulGate_r2 ++ (wsX5_usefulGate_r3 ++ (wsX5_usefulGate_r4 ++ (wsX5_usefulGate_r5 ++ (wsX5_usefulGate_r6 ++ wsX5_usefulGate_r7)))))) ++ wsX50 ++ wsX20 ++ wsX00 ++ wsX40 ++ wsX10)
def wsX5_advance_r1 : List Cond := [Cond.fieldLink RX5 10 "IrrigationDistrict" "now" "LIrrigationDistrict$State;", Cond.fieldLink RX5 30 "IrrigationDistrict" "flow" "LIrrigationDistrict$Flow;", Cond.methodLink RX5 73 yX5_isWithin, Cond.static yX5_isWithin, Cond.initialized RX5, Cond.code yX5_isWithin cX5_isWithin 3 (some .boolean), Cond.methodLink RX5 181 yX2_passHour, Cond.instanceMethod yX2_passHour, Cond.selects RX2 yX2_passHour yX2_passHour, Cond.initialized RX2, Cond.code yX2_passHour cX2_passHour 4 (some .int), Cond.fieldLink RX2 30 "IrrigationDistrict$State" "sums" "[I", Cond.fieldLink RX2 124 "IrrigationDistrict$Flow" "into" "[I", Cond.fieldLink RX2 49 "IrrigationDistrict$State" "ditchCount" "I", Cond.fieldLink RX2 64 "IrrigationDistrict$State" "userCount" "I", Cond.fieldLink RX2 19 "IrrigationDistrict$State" "user" "[LIrrigationDistrict$User;", Cond.fieldLink RX2 133 "IrrigationDistrict$Flow" "got" "[I", Cond.fieldLink RX2 71 "IrrigationDistrict$State" "hoursPassed" "I", Cond.methodLink RX2 118 yX1_distribute, Cond.instanceMethod yX1_distribute, Cond.selects RX1 yX1_distribute yX1_distribute, Cond.initialized RX1, Cond.code yX1_distribute cX1_distribute 5 none, Cond.fieldLink RX1 33 "IrrigationDistrict$Flow" "supply" "I"]
def wsX5_advance_r2 : List Cond := [Cond.fieldLink RX1 40 "IrrigationDistrict$State" "userCount" "I", Cond.fieldLink RX1 9 "IrrigationDistrict$Flow" "asked" "[I", Cond.fieldLink RX1 15 "IrrigationDistrict$Flow" "got" "[I", Cond.fieldLink RX1 47 "IrrigationDistrict$State" "rule" "I", Cond.fieldLink RX1 65 "IrrigationDistrict$State" "byAge" "[I", Cond.methodLink RX1 27 yX2_supplyNow, Cond.instanceMethod yX2_supplyNow, Cond.selects RX2 yX2_supplyNow yX2_supplyNow, Cond.code yX2_supplyNow cX2_supplyNow 1 (some .int), Cond.fieldLink RX2 27 "IrrigationDistrict$State" "supply" "[I", Cond.methodLink RX2 94 yX2_hourOfDay, Cond.instanceMethod yX2_hourOfDay, Cond.selects RX2 yX2_hourOfDay yX2_hourOfDay, Cond.code yX2_hourOfDay cX2_hourOfDay 1 (some .int), Cond.methodLink RX2 91 yJ9_floorMod_7cf53, Cond.static yJ9_floorMod_7cf53, Cond.initialized RJ9, Cond.code yJ9_floorMod_7cf53 cJ9_floorMod_7cf53 3 (some .int), Cond.methodLink RX1 37 yX2_userInTurn, Cond.instanceMethod yX2_userInTurn, Cond.selects RX2 yX2_userInTurn yX2_userInTurn, Cond.code yX2_userInTurn cX2_userInTurn 4 (some .int), Cond.fieldLink RX2 98 "IrrigationDistrict$User" "turnHours" "I", Cond.fieldLink RX2 33 "IrrigationDistrict$State" "rule" "I"]
def wsX5_advance_r3 : List Cond := [Cond.methodLink RX1 43 yX2_unitsAsked, Cond.instanceMethod yX2_unitsAsked, Cond.selects RX2 yX2_unitsAsked yX2_unitsAsked, Cond.code yX2_unitsAsked cX2_unitsAsked 5 (some .int), Cond.fieldLink RX2 101 "IrrigationDistrict$User" "shut" "Z", Cond.fieldLink RX2 112 "IrrigationDistrict$User" "right" "I", Cond.methodLink RX2 115 Lib.Math.min.name, Cond.static Lib.Math.min.name, Cond.initialized "java/lang/Math", Cond.code Lib.Math.min.name Lib.Math.min.code 2 (some .int), Cond.methodLink RX2 105 yX4_needAt, Cond.instanceMethod yX4_needAt, Cond.selects RX4 yX4_needAt yX4_needAt, Cond.initialized RX4, Cond.code yX4_needAt cX4_needAt 2 (some .int), Cond.fieldLink RX4 22 "IrrigationDistrict$User" "from" "I", Cond.fieldLink RX4 25 "IrrigationDistrict$User" "to" "I", Cond.fieldLink RX4 19 "IrrigationDistrict$User" "need" "I", Cond.methodLink RX2 109 yX4_room, Cond.instanceMethod yX4_room, Cond.selects RX4 yX4_room yX4_room, Cond.code yX4_room cX4_room 1 (some .int), Cond.fieldLink RX4 28 "IrrigationDistrict$User" "capacity" "I", Cond.fieldLink RX4 31 "IrrigationDistrict$User" "content" "I"]
def wsX5_advance_r4 : List Cond := [Cond.methodLink RX1 50 yX1_giveGreatestShares, Cond.instanceMethod yX1_giveGreatestShares, Cond.selects RX1 yX1_giveGreatestShares yX1_giveGreatestShares, Cond.code yX1_giveGreatestShares cX1_giveGreatestShares 4 none, Cond.methodLink RX1 91 yX1_giveShares, Cond.instanceMethod yX1_giveShares, Cond.selects RX1 yX1_giveShares yX1_giveShares, Cond.code yX1_giveShares cX1_giveShares 4 none, Cond.methodLink RX1 54 yX1_spread, Cond.instanceMethod yX1_spread, Cond.selects RX1 yX1_spread yX1_spread, Cond.code yX1_spread cX1_spread 3 none, Cond.fieldLink RX1 77 "IrrigationDistrict$State" "ditchCount" "I", Cond.fieldLink RX1 21 "IrrigationDistrict$Flow" "passed" "[I", Cond.fieldLink RX1 68 "IrrigationDistrict$State" "user" "[LIrrigationDistrict$User;", Cond.fieldLink RX1 72 "IrrigationDistrict$User" "ditch" "I", Cond.fieldLink RX1 18 "IrrigationDistrict$Flow" "into" "[I", Cond.fieldLink RX1 80 "IrrigationDistrict$State" "ditch" "[LIrrigationDistrict$Ditch;", Cond.fieldLink RX1 88 "IrrigationDistrict$Ditch" "parent" "I", Cond.methodLink RX1 98 yX0_inflowFor, Cond.instanceMethod yX0_inflowFor, Cond.selects RX0 yX0_inflowFor yX0_inflowFor, Cond.initialized RX0, Cond.code yX0_inflowFor cX0_inflowFor 3 (some .int)]
def wsX5_advance_r5 : List Cond := [Cond.fieldLink RX0 16 "IrrigationDistrict$Ditch" "loss" "I", Cond.methodLink RX1 94 yX1_isPossible, Cond.instanceMethod yX1_isPossible, Cond.selects RX1 yX1_isPossible yX1_isPossible, Cond.code yX1_isPossible cX1_isPossible 3 (some .boolean), Cond.fieldLink RX1 83 "IrrigationDistrict$Ditch" "gate" "I", Cond.methodLink RX1 57 yX2_hasUser, Cond.instanceMethod yX2_hasUser, Cond.selects RX2 yX2_hasUser yX2_hasUser, Cond.code yX2_hasUser cX2_hasUser 2 (some .boolean), Cond.methodLink RX1 61 yX1_serve, Cond.instanceMethod yX1_serve, Cond.selects RX1 yX1_serve yX1_serve, Cond.code yX1_serve cX1_serve 4 none, Cond.methodLink RX1 106 Lib.Math.min.name, Cond.methodLink RX1 102 yX1_mostFor, Cond.instanceMethod yX1_mostFor, Cond.selects RX1 yX1_mostFor yX1_mostFor, Cond.code yX1_mostFor cX1_mostFor 6 (some .int), Cond.fieldLink RX1 24 "IrrigationDistrict$Flow" "most" "[I", Cond.methodLink RX1 111 yX0_passedOf, Cond.instanceMethod yX0_passedOf, Cond.selects RX0 yX0_passedOf yX0_passedOf, Cond.code yX0_passedOf cX0_passedOf 2 (some .int)]
def wsX5_advance_r6 : List Cond := [Cond.methodLink RX2 127 yX2_supplyNow, Cond.methodLink RX2 130 yX1_lostIn, Cond.instanceMethod yX1_lostIn, Cond.selects RX1 yX1_lostIn yX1_lostIn, Cond.code yX1_lostIn cX1_lostIn 2 (some .int), Cond.methodLink RX2 136 yX2_useWater, Cond.instanceMethod yX2_useWater, Cond.selects RX2 yX2_useWater yX2_useWater, Cond.code yX2_useWater cX2_useWater 7 none, Cond.fieldLink RX2 140 "IrrigationDistrict$User" "content" "I", Cond.fieldLink RX2 143 "IrrigationDistrict$User" "leak" "I", Cond.fieldLink RX2 146 "IrrigationDistrict$User" "unitsMissed" "I"]
def wsX5_advance : List Cond := .code yX5_advance cX5_advance 4 (some .int) :: ((wsX5_advance_r1 ++ (wsX5_advance_r2 ++ (wsX5_advance_r3 ++ (wsX5_advance_r4 ++ (wsX5_advance_r5 ++ wsX5_advance_r6))))) ++ wsX50 ++ wsX20 ++ wsX10 ++ wsX40 ++ wsX00)
def wsX5_account : List Cond := .code yX5_account cX5_account 2 (some .int) :: ([.fieldLink RX5 10 "IrrigationDistrict" "now" "LIrrigationDistrict$State;", .fieldLink RX5 185 "IrrigationDistrict$State" "sums" "[I", .methodLink RX5 73 yX5_isWithin, .static yX5_isWithin, .initialized RX5, .code yX5_isWithin cX5_isWithin 3 (some .boolean)] ++ wsX50 ++ wsX20)
def wsX5_willMiss_r1 : List Cond := [Cond.fieldLink RX5 10 "IrrigationDistrict" "now" "LIrrigationDistrict$State;", Cond.fieldLink RX5 16 "IrrigationDistrict" "trial" "LIrrigationDistrict$State;", Cond.fieldLink RX5 30 "IrrigationDistrict" "flow" "LIrrigationDistrict$Flow;", Cond.fieldLink RX5 92 "IrrigationDistrict$State" "user" "[LIrrigationDistrict$User;", Cond.fieldLink RX5 188 "IrrigationDistrict$User" "unitsMissed" "I", Cond.methodLink RX5 86 yX2_hasUser, Cond.instanceMethod yX2_hasUser, Cond.selects RX2 yX2_hasUser yX2_hasUser, Cond.initialized RX2, Cond.code yX2_hasUser cX2_hasUser 2 (some .boolean), Cond.fieldLink RX2 64 "IrrigationDistrict$State" "userCount" "I", Cond.methodLink RX5 73 yX5_isWithin, Cond.static yX5_isWithin, Cond.initialized RX5, Cond.code yX5_isWithin cX5_isWithin 3 (some .boolean), Cond.methodLink RX5 172 yX2_copyFrom, Cond.instanceMethod yX2_copyFrom, Cond.selects RX2 yX2_copyFrom yX2_copyFrom, Cond.code yX2_copyFrom cX2_copyFrom 4 none, Cond.fieldLink RX2 49 "IrrigationDistrict$State" "ditchCount" "I", Cond.fieldLink RX2 11 "IrrigationDistrict$State" "ditch" "[LIrrigationDistrict$Ditch;", Cond.fieldLink RX2 52 "IrrigationDistrict$Ditch" "parent" "I", Cond.fieldLink RX2 55 "IrrigationDistrict$Ditch" "gate" "I", Cond.fieldLink RX2 58 "IrrigationDistrict$Ditch" "loss" "I"]
def wsX5_willMiss_r2 : List Cond := [Cond.fieldLink RX2 19 "IrrigationDistrict$State" "user" "[LIrrigationDistrict$User;", Cond.fieldLink RX2 23 "IrrigationDistrict$State" "byAge" "[I", Cond.fieldLink RX2 27 "IrrigationDistrict$State" "supply" "[I", Cond.fieldLink RX2 30 "IrrigationDistrict$State" "sums" "[I", Cond.fieldLink RX2 33 "IrrigationDistrict$State" "rule" "I", Cond.fieldLink RX2 37 "IrrigationDistrict$State" "futilePercent" "I", Cond.fieldLink RX2 71 "IrrigationDistrict$State" "hoursPassed" "I", Cond.methodLink RX2 61 yX0_begin, Cond.instanceMethod yX0_begin, Cond.selects RX0 yX0_begin yX0_begin, Cond.initialized RX0, Cond.code yX0_begin cX0_begin 4 none, Cond.fieldLink RX0 7 "IrrigationDistrict$Ditch" "parent" "I", Cond.fieldLink RX0 13 "IrrigationDistrict$Ditch" "gate" "I", Cond.fieldLink RX0 16 "IrrigationDistrict$Ditch" "loss" "I", Cond.methodLink RX2 67 yX4_copyFrom, Cond.instanceMethod yX4_copyFrom, Cond.selects RX4 yX4_copyFrom yX4_copyFrom, Cond.initialized RX4, Cond.code yX4_copyFrom cX4_copyFrom 2 none, Cond.fieldLink RX4 7 "IrrigationDistrict$User" "ditch" "I", Cond.fieldLink RX4 13 "IrrigationDistrict$User" "year" "I", Cond.fieldLink RX4 16 "IrrigationDistrict$User" "right" "I", Cond.fieldLink RX4 19 "IrrigationDistrict$User" "need" "I"]
def wsX5_willMiss_r3 : List Cond := [Cond.fieldLink RX4 22 "IrrigationDistrict$User" "from" "I", Cond.fieldLink RX4 25 "IrrigationDistrict$User" "to" "I", Cond.fieldLink RX4 28 "IrrigationDistrict$User" "capacity" "I", Cond.fieldLink RX4 31 "IrrigationDistrict$User" "content" "I", Cond.fieldLink RX4 34 "IrrigationDistrict$User" "leak" "I", Cond.fieldLink RX4 37 "IrrigationDistrict$User" "turnHours" "I", Cond.fieldLink RX4 40 "IrrigationDistrict$User" "unitsMissed" "I", Cond.fieldLink RX4 43 "IrrigationDistrict$User" "shut" "Z", Cond.methodLink RX4 47 yX4_begin, Cond.instanceMethod yX4_begin, Cond.selects RX4 yX4_begin yX4_begin, Cond.code yX4_begin cX4_begin 4 none, Cond.methodLink RX5 181 yX2_passHour, Cond.instanceMethod yX2_passHour, Cond.selects RX2 yX2_passHour yX2_passHour, Cond.code yX2_passHour cX2_passHour 4 (some .int), Cond.fieldLink RX2 124 "IrrigationDistrict$Flow" "into" "[I", Cond.fieldLink RX2 133 "IrrigationDistrict$Flow" "got" "[I", Cond.methodLink RX2 118 yX1_distribute, Cond.instanceMethod yX1_distribute, Cond.selects RX1 yX1_distribute yX1_distribute, Cond.initialized RX1, Cond.code yX1_distribute cX1_distribute 5 none, Cond.fieldLink RX1 33 "IrrigationDistrict$Flow" "supply" "I"]
def wsX5_willMiss_r4 : List Cond := [Cond.fieldLink RX1 40 "IrrigationDistrict$State" "userCount" "I", Cond.fieldLink RX1 9 "IrrigationDistrict$Flow" "asked" "[I", Cond.fieldLink RX1 15 "IrrigationDistrict$Flow" "got" "[I", Cond.fieldLink RX1 47 "IrrigationDistrict$State" "rule" "I", Cond.fieldLink RX1 65 "IrrigationDistrict$State" "byAge" "[I", Cond.methodLink RX1 27 yX2_supplyNow, Cond.instanceMethod yX2_supplyNow, Cond.selects RX2 yX2_supplyNow yX2_supplyNow, Cond.code yX2_supplyNow cX2_supplyNow 1 (some .int), Cond.methodLink RX2 94 yX2_hourOfDay, Cond.instanceMethod yX2_hourOfDay, Cond.selects RX2 yX2_hourOfDay yX2_hourOfDay, Cond.code yX2_hourOfDay cX2_hourOfDay 1 (some .int), Cond.methodLink RX2 91 yJ9_floorMod_7cf53, Cond.static yJ9_floorMod_7cf53, Cond.initialized RJ9, Cond.code yJ9_floorMod_7cf53 cJ9_floorMod_7cf53 3 (some .int), Cond.methodLink RX1 37 yX2_userInTurn, Cond.instanceMethod yX2_userInTurn, Cond.selects RX2 yX2_userInTurn yX2_userInTurn, Cond.code yX2_userInTurn cX2_userInTurn 4 (some .int), Cond.fieldLink RX2 98 "IrrigationDistrict$User" "turnHours" "I", Cond.methodLink RX1 43 yX2_unitsAsked, Cond.instanceMethod yX2_unitsAsked]
def wsX5_willMiss_r5 : List Cond := [Cond.selects RX2 yX2_unitsAsked yX2_unitsAsked, Cond.code yX2_unitsAsked cX2_unitsAsked 5 (some .int), Cond.fieldLink RX2 101 "IrrigationDistrict$User" "shut" "Z", Cond.fieldLink RX2 112 "IrrigationDistrict$User" "right" "I", Cond.methodLink RX2 115 Lib.Math.min.name, Cond.static Lib.Math.min.name, Cond.initialized "java/lang/Math", Cond.code Lib.Math.min.name Lib.Math.min.code 2 (some .int), Cond.methodLink RX2 105 yX4_needAt, Cond.instanceMethod yX4_needAt, Cond.selects RX4 yX4_needAt yX4_needAt, Cond.code yX4_needAt cX4_needAt 2 (some .int), Cond.methodLink RX2 109 yX4_room, Cond.instanceMethod yX4_room, Cond.selects RX4 yX4_room yX4_room, Cond.code yX4_room cX4_room 1 (some .int), Cond.methodLink RX1 50 yX1_giveGreatestShares, Cond.instanceMethod yX1_giveGreatestShares, Cond.selects RX1 yX1_giveGreatestShares yX1_giveGreatestShares, Cond.code yX1_giveGreatestShares cX1_giveGreatestShares 4 none, Cond.methodLink RX1 91 yX1_giveShares, Cond.instanceMethod yX1_giveShares, Cond.selects RX1 yX1_giveShares yX1_giveShares, Cond.code yX1_giveShares cX1_giveShares 4 none]
def wsX5_willMiss_r6 : List Cond := [Cond.methodLink RX1 54 yX1_spread, Cond.instanceMethod yX1_spread, Cond.selects RX1 yX1_spread yX1_spread, Cond.code yX1_spread cX1_spread 3 none, Cond.fieldLink RX1 77 "IrrigationDistrict$State" "ditchCount" "I", Cond.fieldLink RX1 21 "IrrigationDistrict$Flow" "passed" "[I", Cond.fieldLink RX1 68 "IrrigationDistrict$State" "user" "[LIrrigationDistrict$User;", Cond.fieldLink RX1 72 "IrrigationDistrict$User" "ditch" "I", Cond.fieldLink RX1 18 "IrrigationDistrict$Flow" "into" "[I", Cond.fieldLink RX1 80 "IrrigationDistrict$State" "ditch" "[LIrrigationDistrict$Ditch;", Cond.fieldLink RX1 88 "IrrigationDistrict$Ditch" "parent" "I", Cond.methodLink RX1 98 yX0_inflowFor, Cond.instanceMethod yX0_inflowFor, Cond.selects RX0 yX0_inflowFor yX0_inflowFor, Cond.code yX0_inflowFor cX0_inflowFor 3 (some .int), Cond.methodLink RX1 94 yX1_isPossible, Cond.instanceMethod yX1_isPossible, Cond.selects RX1 yX1_isPossible yX1_isPossible, Cond.code yX1_isPossible cX1_isPossible 3 (some .boolean), Cond.fieldLink RX1 83 "IrrigationDistrict$Ditch" "gate" "I", Cond.methodLink RX1 57 yX2_hasUser, Cond.methodLink RX1 61 yX1_serve, Cond.instanceMethod yX1_serve, Cond.selects RX1 yX1_serve yX1_serve]
def wsX5_willMiss_r7 : List Cond := [Cond.code yX1_serve cX1_serve 4 none, Cond.methodLink RX1 106 Lib.Math.min.name, Cond.methodLink RX1 102 yX1_mostFor, Cond.instanceMethod yX1_mostFor, Cond.selects RX1 yX1_mostFor yX1_mostFor, Cond.code yX1_mostFor cX1_mostFor 6 (some .int), Cond.fieldLink RX1 24 "IrrigationDistrict$Flow" "most" "[I", Cond.methodLink RX1 111 yX0_passedOf, Cond.instanceMethod yX0_passedOf, Cond.selects RX0 yX0_passedOf yX0_passedOf, Cond.code yX0_passedOf cX0_passedOf 2 (some .int), Cond.methodLink RX2 127 yX2_supplyNow, Cond.methodLink RX2 130 yX1_lostIn, Cond.instanceMethod yX1_lostIn, Cond.selects RX1 yX1_lostIn yX1_lostIn, Cond.code yX1_lostIn cX1_lostIn 2 (some .int), Cond.methodLink RX2 136 yX2_useWater, Cond.instanceMethod yX2_useWater, Cond.selects RX2 yX2_useWater yX2_useWater, Cond.code yX2_useWater cX2_useWater 7 none, Cond.fieldLink RX2 140 "IrrigationDistrict$User" "content" "I", Cond.fieldLink RX2 143 "IrrigationDistrict$User" "leak" "I", Cond.fieldLink RX2 146 "IrrigationDistrict$User" "unitsMissed" "I"]
def wsX5_willMiss : List Cond := .code yX5_willMiss cX5_willMiss 4 (some .int) :: ((wsX5_willMiss_r1 ++ (wsX5_willMiss_r2 ++ (wsX5_willMiss_r3 ++ (wsX5_willMiss_r4 ++ (wsX5_willMiss_r5 ++ (wsX5_willMiss_r6 ++ wsX5_willMiss_r7)))))) ++ wsX50 ++ wsX20 ++ wsX40 ++ wsX00 ++ wsX10)
def wsX5_gainOf_r1 : List Cond := [Cond.fieldLink RX5 30 "IrrigationDistrict" "flow" "LIrrigationDistrict$Flow;", Cond.fieldLink RX5 10 "IrrigationDistrict" "now" "LIrrigationDistrict$State;", Cond.fieldLink RX5 155 "IrrigationDistrict$Flow" "got" "[I", Cond.fieldLink RX5 16 "IrrigationDistrict" "trial" "LIrrigationDistrict$State;", Cond.fieldLink RX5 92 "IrrigationDistrict$State" "user" "[LIrrigationDistrict$User;", Cond.fieldLink RX5 203 "IrrigationDistrict$User" "shut" "Z", Cond.methodLink RX5 151 yX1_distribute, Cond.instanceMethod yX1_distribute, Cond.selects RX1 yX1_distribute yX1_distribute, Cond.initialized RX1, Cond.code yX1_distribute cX1_distribute 5 none, Cond.fieldLink RX1 33 "IrrigationDistrict$Flow" "supply" "I", Cond.fieldLink RX1 40 "IrrigationDistrict$State" "userCount" "I", Cond.fieldLink RX1 9 "IrrigationDistrict$Flow" "asked" "[I", Cond.fieldLink RX1 15 "IrrigationDistrict$Flow" "got" "[I", Cond.fieldLink RX1 47 "IrrigationDistrict$State" "rule" "I", Cond.fieldLink RX1 65 "IrrigationDistrict$State" "byAge" "[I", Cond.methodLink RX1 27 yX2_supplyNow, Cond.instanceMethod yX2_supplyNow, Cond.selects RX2 yX2_supplyNow yX2_supplyNow, Cond.initialized RX2, Cond.code yX2_supplyNow cX2_supplyNow 1 (some .int), Cond.fieldLink RX2 27 "IrrigationDistrict$State" "supply" "[I", Cond.methodLink RX2 94 yX2_hourOfDay]
def wsX5_gainOf_r2 : List Cond := [Cond.instanceMethod yX2_hourOfDay, Cond.selects RX2 yX2_hourOfDay yX2_hourOfDay, Cond.code yX2_hourOfDay cX2_hourOfDay 1 (some .int), Cond.fieldLink RX2 71 "IrrigationDistrict$State" "hoursPassed" "I", Cond.methodLink RX2 91 yJ9_floorMod_7cf53, Cond.static yJ9_floorMod_7cf53, Cond.initialized RJ9, Cond.code yJ9_floorMod_7cf53 cJ9_floorMod_7cf53 3 (some .int), Cond.methodLink RX1 37 yX2_userInTurn, Cond.instanceMethod yX2_userInTurn, Cond.selects RX2 yX2_userInTurn yX2_userInTurn, Cond.code yX2_userInTurn cX2_userInTurn 4 (some .int), Cond.fieldLink RX2 64 "IrrigationDistrict$State" "userCount" "I", Cond.fieldLink RX2 19 "IrrigationDistrict$State" "user" "[LIrrigationDistrict$User;", Cond.fieldLink RX2 98 "IrrigationDistrict$User" "turnHours" "I", Cond.fieldLink RX2 33 "IrrigationDistrict$State" "rule" "I", Cond.methodLink RX1 43 yX2_unitsAsked, Cond.instanceMethod yX2_unitsAsked, Cond.selects RX2 yX2_unitsAsked yX2_unitsAsked, Cond.code yX2_unitsAsked cX2_unitsAsked 5 (some .int), Cond.fieldLink RX2 101 "IrrigationDistrict$User" "shut" "Z", Cond.fieldLink RX2 112 "IrrigationDistrict$User" "right" "I", Cond.methodLink RX2 115 Lib.Math.min.name, Cond.static Lib.Math.min.name]
def wsX5_gainOf_r3 : List Cond := [Cond.initialized "java/lang/Math", Cond.code Lib.Math.min.name Lib.Math.min.code 2 (some .int), Cond.methodLink RX2 105 yX4_needAt, Cond.instanceMethod yX4_needAt, Cond.selects RX4 yX4_needAt yX4_needAt, Cond.initialized RX4, Cond.code yX4_needAt cX4_needAt 2 (some .int), Cond.fieldLink RX4 22 "IrrigationDistrict$User" "from" "I", Cond.fieldLink RX4 25 "IrrigationDistrict$User" "to" "I", Cond.fieldLink RX4 19 "IrrigationDistrict$User" "need" "I", Cond.methodLink RX2 109 yX4_room, Cond.instanceMethod yX4_room, Cond.selects RX4 yX4_room yX4_room, Cond.code yX4_room cX4_room 1 (some .int), Cond.fieldLink RX4 28 "IrrigationDistrict$User" "capacity" "I", Cond.fieldLink RX4 31 "IrrigationDistrict$User" "content" "I", Cond.methodLink RX1 50 yX1_giveGreatestShares, Cond.instanceMethod yX1_giveGreatestShares, Cond.selects RX1 yX1_giveGreatestShares yX1_giveGreatestShares, Cond.code yX1_giveGreatestShares cX1_giveGreatestShares 4 none, Cond.methodLink RX1 91 yX1_giveShares, Cond.instanceMethod yX1_giveShares, Cond.selects RX1 yX1_giveShares yX1_giveShares, Cond.code yX1_giveShares cX1_giveShares 4 none]
def wsX5_gainOf_r4 : List Cond := [Cond.methodLink RX1 54 yX1_spread, Cond.instanceMethod yX1_spread, Cond.selects RX1 yX1_spread yX1_spread, Cond.code yX1_spread cX1_spread 3 none, Cond.fieldLink RX1 77 "IrrigationDistrict$State" "ditchCount" "I", Cond.fieldLink RX1 21 "IrrigationDistrict$Flow" "passed" "[I", Cond.fieldLink RX1 68 "IrrigationDistrict$State" "user" "[LIrrigationDistrict$User;", Cond.fieldLink RX1 72 "IrrigationDistrict$User" "ditch" "I", Cond.fieldLink RX1 18 "IrrigationDistrict$Flow" "into" "[I", Cond.fieldLink RX1 80 "IrrigationDistrict$State" "ditch" "[LIrrigationDistrict$Ditch;", Cond.fieldLink RX1 88 "IrrigationDistrict$Ditch" "parent" "I", Cond.methodLink RX1 98 yX0_inflowFor, Cond.instanceMethod yX0_inflowFor, Cond.selects RX0 yX0_inflowFor yX0_inflowFor, Cond.initialized RX0, Cond.code yX0_inflowFor cX0_inflowFor 3 (some .int), Cond.fieldLink RX0 16 "IrrigationDistrict$Ditch" "loss" "I", Cond.methodLink RX1 94 yX1_isPossible, Cond.instanceMethod yX1_isPossible, Cond.selects RX1 yX1_isPossible yX1_isPossible, Cond.code yX1_isPossible cX1_isPossible 3 (some .boolean), Cond.fieldLink RX1 83 "IrrigationDistrict$Ditch" "gate" "I", Cond.methodLink RX1 57 yX2_hasUser, Cond.instanceMethod yX2_hasUser]
def wsX5_gainOf_r5 : List Cond := [Cond.selects RX2 yX2_hasUser yX2_hasUser, Cond.code yX2_hasUser cX2_hasUser 2 (some .boolean), Cond.methodLink RX1 61 yX1_serve, Cond.instanceMethod yX1_serve, Cond.selects RX1 yX1_serve yX1_serve, Cond.code yX1_serve cX1_serve 4 none, Cond.methodLink RX1 106 Lib.Math.min.name, Cond.methodLink RX1 102 yX1_mostFor, Cond.instanceMethod yX1_mostFor, Cond.selects RX1 yX1_mostFor yX1_mostFor, Cond.code yX1_mostFor cX1_mostFor 6 (some .int), Cond.fieldLink RX1 24 "IrrigationDistrict$Flow" "most" "[I", Cond.methodLink RX1 111 yX0_passedOf, Cond.instanceMethod yX0_passedOf, Cond.selects RX0 yX0_passedOf yX0_passedOf, Cond.code yX0_passedOf cX0_passedOf 2 (some .int), Cond.methodLink RX5 172 yX2_copyFrom, Cond.instanceMethod yX2_copyFrom, Cond.selects RX2 yX2_copyFrom yX2_copyFrom, Cond.code yX2_copyFrom cX2_copyFrom 4 none, Cond.fieldLink RX2 49 "IrrigationDistrict$State" "ditchCount" "I", Cond.fieldLink RX2 11 "IrrigationDistrict$State" "ditch" "[LIrrigationDistrict$Ditch;", Cond.fieldLink RX2 52 "IrrigationDistrict$Ditch" "parent" "I", Cond.fieldLink RX2 55 "IrrigationDistrict$Ditch" "gate" "I"]
def wsX5_gainOf_r6 : List Cond := [Cond.fieldLink RX2 58 "IrrigationDistrict$Ditch" "loss" "I", Cond.fieldLink RX2 23 "IrrigationDistrict$State" "byAge" "[I", Cond.fieldLink RX2 30 "IrrigationDistrict$State" "sums" "[I", Cond.fieldLink RX2 37 "IrrigationDistrict$State" "futilePercent" "I", Cond.methodLink RX2 61 yX0_begin, Cond.instanceMethod yX0_begin, Cond.selects RX0 yX0_begin yX0_begin, Cond.code yX0_begin cX0_begin 4 none, Cond.fieldLink RX0 7 "IrrigationDistrict$Ditch" "parent" "I", Cond.fieldLink RX0 13 "IrrigationDistrict$Ditch" "gate" "I", Cond.methodLink RX2 67 yX4_copyFrom, Cond.instanceMethod yX4_copyFrom, Cond.selects RX4 yX4_copyFrom yX4_copyFrom, Cond.code yX4_copyFrom cX4_copyFrom 2 none, Cond.fieldLink RX4 7 "IrrigationDistrict$User" "ditch" "I", Cond.fieldLink RX4 13 "IrrigationDistrict$User" "year" "I", Cond.fieldLink RX4 16 "IrrigationDistrict$User" "right" "I", Cond.fieldLink RX4 34 "IrrigationDistrict$User" "leak" "I", Cond.fieldLink RX4 37 "IrrigationDistrict$User" "turnHours" "I", Cond.fieldLink RX4 40 "IrrigationDistrict$User" "unitsMissed" "I", Cond.fieldLink RX4 43 "IrrigationDistrict$User" "shut" "Z", Cond.methodLink RX4 47 yX4_begin, Cond.instanceMethod yX4_begin, Cond.selects RX4 yX4_begin yX4_begin]
def wsX5_gainOf_r7 : List Cond := [Cond.code yX4_begin cX4_begin 4 none]
def wsX5_gainOf : List Cond := .code yX5_gainOf cX5_gainOf 4 (some .int) :: ((wsX5_gainOf_r1 ++ (wsX5_gainOf_r2 ++ (wsX5_gainOf_r3 ++ (wsX5_gainOf_r4 ++ (wsX5_gainOf_r5 ++ (wsX5_gainOf_r6 ++ wsX5_gainOf_r7)))))) ++ wsX50 ++ wsX10 ++ wsX20 ++ wsX40 ++ wsX00)
def wsX5_gain_r1 : List Cond := [Cond.fieldLink RX5 10 "IrrigationDistrict" "now" "LIrrigationDistrict$State;", Cond.methodLink RX5 86 yX2_hasUser, Cond.instanceMethod yX2_hasUser, Cond.selects RX2 yX2_hasUser yX2_hasUser, Cond.initialized RX2, Cond.code yX2_hasUser cX2_hasUser 2 (some .boolean), Cond.fieldLink RX2 64 "IrrigationDistrict$State" "userCount" "I", Cond.methodLink RX5 194 yX2_isYounger, Cond.instanceMethod yX2_isYounger, Cond.selects RX2 yX2_isYounger yX2_isYounger, Cond.code yX2_isYounger cX2_isYounger 5 (some .boolean), Cond.fieldLink RX2 19 "IrrigationDistrict$State" "user" "[LIrrigationDistrict$User;", Cond.fieldLink RX2 81 "IrrigationDistrict$User" "year" "I", Cond.methodLink RX5 197 yX5_gainOf, Cond.instanceMethod yX5_gainOf, Cond.selects RX5 yX5_gainOf yX5_gainOf, Cond.initialized RX5, Cond.code yX5_gainOf cX5_gainOf 4 (some .int), Cond.fieldLink RX5 30 "IrrigationDistrict" "flow" "LIrrigationDistrict$Flow;", Cond.fieldLink RX5 155 "IrrigationDistrict$Flow" "got" "[I", Cond.fieldLink RX5 16 "IrrigationDistrict" "trial" "LIrrigationDistrict$State;", Cond.fieldLink RX5 92 "IrrigationDistrict$State" "user" "[LIrrigationDistrict$User;", Cond.fieldLink RX5 203 "IrrigationDistrict$User" "shut" "Z", Cond.methodLink RX5 151 yX1_distribute]
def wsX5_gain_r2 : List Cond := [Cond.instanceMethod yX1_distribute, Cond.selects RX1 yX1_distribute yX1_distribute, Cond.initialized RX1, Cond.code yX1_distribute cX1_distribute 5 none, Cond.fieldLink RX1 33 "IrrigationDistrict$Flow" "supply" "I", Cond.fieldLink RX1 40 "IrrigationDistrict$State" "userCount" "I", Cond.fieldLink RX1 9 "IrrigationDistrict$Flow" "asked" "[I", Cond.fieldLink RX1 15 "IrrigationDistrict$Flow" "got" "[I", Cond.fieldLink RX1 47 "IrrigationDistrict$State" "rule" "I", Cond.fieldLink RX1 65 "IrrigationDistrict$State" "byAge" "[I", Cond.methodLink RX1 27 yX2_supplyNow, Cond.instanceMethod yX2_supplyNow, Cond.selects RX2 yX2_supplyNow yX2_supplyNow, Cond.code yX2_supplyNow cX2_supplyNow 1 (some .int), Cond.fieldLink RX2 27 "IrrigationDistrict$State" "supply" "[I", Cond.methodLink RX2 94 yX2_hourOfDay, Cond.instanceMethod yX2_hourOfDay, Cond.selects RX2 yX2_hourOfDay yX2_hourOfDay, Cond.code yX2_hourOfDay cX2_hourOfDay 1 (some .int), Cond.fieldLink RX2 71 "IrrigationDistrict$State" "hoursPassed" "I", Cond.methodLink RX2 91 yJ9_floorMod_7cf53, Cond.static yJ9_floorMod_7cf53, Cond.initialized RJ9, Cond.code yJ9_floorMod_7cf53 cJ9_floorMod_7cf53 3 (some .int)]
def wsX5_gain_r3 : List Cond := [Cond.methodLink RX1 37 yX2_userInTurn, Cond.instanceMethod yX2_userInTurn, Cond.selects RX2 yX2_userInTurn yX2_userInTurn, Cond.code yX2_userInTurn cX2_userInTurn 4 (some .int), Cond.fieldLink RX2 98 "IrrigationDistrict$User" "turnHours" "I", Cond.fieldLink RX2 33 "IrrigationDistrict$State" "rule" "I", Cond.methodLink RX1 43 yX2_unitsAsked, Cond.instanceMethod yX2_unitsAsked, Cond.selects RX2 yX2_unitsAsked yX2_unitsAsked, Cond.code yX2_unitsAsked cX2_unitsAsked 5 (some .int), Cond.fieldLink RX2 101 "IrrigationDistrict$User" "shut" "Z", Cond.fieldLink RX2 112 "IrrigationDistrict$User" "right" "I", Cond.methodLink RX2 115 Lib.Math.min.name, Cond.static Lib.Math.min.name, Cond.initialized "java/lang/Math", Cond.code Lib.Math.min.name Lib.Math.min.code 2 (some .int), Cond.methodLink RX2 105 yX4_needAt, Cond.instanceMethod yX4_needAt, Cond.selects RX4 yX4_needAt yX4_needAt, Cond.initialized RX4, Cond.code yX4_needAt cX4_needAt 2 (some .int), Cond.fieldLink RX4 22 "IrrigationDistrict$User" "from" "I", Cond.fieldLink RX4 25 "IrrigationDistrict$User" "to" "I", Cond.fieldLink RX4 19 "IrrigationDistrict$User" "need" "I"]
def wsX5_gain_r4 : List Cond := [Cond.methodLink RX2 109 yX4_room, Cond.instanceMethod yX4_room, Cond.selects RX4 yX4_room yX4_room, Cond.code yX4_room cX4_room 1 (some .int), Cond.fieldLink RX4 28 "IrrigationDistrict$User" "capacity" "I", Cond.fieldLink RX4 31 "IrrigationDistrict$User" "content" "I", Cond.methodLink RX1 50 yX1_giveGreatestShares, Cond.instanceMethod yX1_giveGreatestShares, Cond.selects RX1 yX1_giveGreatestShares yX1_giveGreatestShares, Cond.code yX1_giveGreatestShares cX1_giveGreatestShares 4 none, Cond.methodLink RX1 91 yX1_giveShares, Cond.instanceMethod yX1_giveShares, Cond.selects RX1 yX1_giveShares yX1_giveShares, Cond.code yX1_giveShares cX1_giveShares 4 none, Cond.methodLink RX1 54 yX1_spread, Cond.instanceMethod yX1_spread, Cond.selects RX1 yX1_spread yX1_spread, Cond.code yX1_spread cX1_spread 3 none, Cond.fieldLink RX1 77 "IrrigationDistrict$State" "ditchCount" "I", Cond.fieldLink RX1 21 "IrrigationDistrict$Flow" "passed" "[I", Cond.fieldLink RX1 68 "IrrigationDistrict$State" "user" "[LIrrigationDistrict$User;", Cond.fieldLink RX1 72 "IrrigationDistrict$User" "ditch" "I", Cond.fieldLink RX1 18 "IrrigationDistrict$Flow" "into" "[I", Cond.fieldLink RX1 80 "IrrigationDistrict$State" "ditch" "[LIrrigationDistrict$Ditch;"]
def wsX5_gain_r5 : List Cond := [Cond.fieldLink RX1 88 "IrrigationDistrict$Ditch" "parent" "I", Cond.methodLink RX1 98 yX0_inflowFor, Cond.instanceMethod yX0_inflowFor, Cond.selects RX0 yX0_inflowFor yX0_inflowFor, Cond.initialized RX0, Cond.code yX0_inflowFor cX0_inflowFor 3 (some .int), Cond.fieldLink RX0 16 "IrrigationDistrict$Ditch" "loss" "I", Cond.methodLink RX1 94 yX1_isPossible, Cond.instanceMethod yX1_isPossible, Cond.selects RX1 yX1_isPossible yX1_isPossible, Cond.code yX1_isPossible cX1_isPossible 3 (some .boolean), Cond.fieldLink RX1 83 "IrrigationDistrict$Ditch" "gate" "I", Cond.methodLink RX1 57 yX2_hasUser, Cond.methodLink RX1 61 yX1_serve, Cond.instanceMethod yX1_serve, Cond.selects RX1 yX1_serve yX1_serve, Cond.code yX1_serve cX1_serve 4 none, Cond.methodLink RX1 106 Lib.Math.min.name, Cond.methodLink RX1 102 yX1_mostFor, Cond.instanceMethod yX1_mostFor, Cond.selects RX1 yX1_mostFor yX1_mostFor, Cond.code yX1_mostFor cX1_mostFor 6 (some .int), Cond.fieldLink RX1 24 "IrrigationDistrict$Flow" "most" "[I", Cond.methodLink RX1 111 yX0_passedOf]
def wsX5_gain_r6 : List Cond := [Cond.instanceMethod yX0_passedOf, Cond.selects RX0 yX0_passedOf yX0_passedOf, Cond.code yX0_passedOf cX0_passedOf 2 (some .int), Cond.methodLink RX5 172 yX2_copyFrom, Cond.instanceMethod yX2_copyFrom, Cond.selects RX2 yX2_copyFrom yX2_copyFrom, Cond.code yX2_copyFrom cX2_copyFrom 4 none, Cond.fieldLink RX2 49 "IrrigationDistrict$State" "ditchCount" "I", Cond.fieldLink RX2 11 "IrrigationDistrict$State" "ditch" "[LIrrigationDistrict$Ditch;", Cond.fieldLink RX2 52 "IrrigationDistrict$Ditch" "parent" "I", Cond.fieldLink RX2 55 "IrrigationDistrict$Ditch" "gate" "I", Cond.fieldLink RX2 58 "IrrigationDistrict$Ditch" "loss" "I", Cond.fieldLink RX2 23 "IrrigationDistrict$State" "byAge" "[I", Cond.fieldLink RX2 30 "IrrigationDistrict$State" "sums" "[I", Cond.fieldLink RX2 37 "IrrigationDistrict$State" "futilePercent" "I", Cond.methodLink RX2 61 yX0_begin, Cond.instanceMethod yX0_begin, Cond.selects RX0 yX0_begin yX0_begin, Cond.code yX0_begin cX0_begin 4 none, Cond.fieldLink RX0 7 "IrrigationDistrict$Ditch" "parent" "I", Cond.fieldLink RX0 13 "IrrigationDistrict$Ditch" "gate" "I", Cond.methodLink RX2 67 yX4_copyFrom, Cond.instanceMethod yX4_copyFrom, Cond.selects RX4 yX4_copyFrom yX4_copyFrom]
def wsX5_gain_r7 : List Cond := [Cond.code yX4_copyFrom cX4_copyFrom 2 none, Cond.fieldLink RX4 7 "IrrigationDistrict$User" "ditch" "I", Cond.fieldLink RX4 13 "IrrigationDistrict$User" "year" "I", Cond.fieldLink RX4 16 "IrrigationDistrict$User" "right" "I", Cond.fieldLink RX4 34 "IrrigationDistrict$User" "leak" "I", Cond.fieldLink RX4 37 "IrrigationDistrict$User" "turnHours" "I", Cond.fieldLink RX4 40 "IrrigationDistrict$User" "unitsMissed" "I", Cond.fieldLink RX4 43 "IrrigationDistrict$User" "shut" "Z", Cond.methodLink RX4 47 yX4_begin, Cond.instanceMethod yX4_begin, Cond.selects RX4 yX4_begin yX4_begin, Cond.code yX4_begin cX4_begin 4 none]
def wsX5_gain : List Cond := .code yX5_gain cX5_gain 3 (some .int) :: ((wsX5_gain_r1 ++ (wsX5_gain_r2 ++ (wsX5_gain_r3 ++ (wsX5_gain_r4 ++ (wsX5_gain_r5 ++ (wsX5_gain_r6 ++ wsX5_gain_r7)))))) ++ wsX50 ++ wsX20 ++ wsX40 ++ wsX10 ++ wsX00)
def wsX5_judge_r1 : List Cond := [Cond.fieldLink RX5 30 "IrrigationDistrict" "flow" "LIrrigationDistrict$Flow;", Cond.fieldLink RX5 10 "IrrigationDistrict" "now" "LIrrigationDistrict$State;", Cond.fieldLink RX5 155 "IrrigationDistrict$Flow" "got" "[I", Cond.fieldLink RX5 135 "IrrigationDistrict$State" "futilePercent" "I", Cond.methodLink RX5 151 yX1_distribute, Cond.instanceMethod yX1_distribute, Cond.selects RX1 yX1_distribute yX1_distribute, Cond.initialized RX1, Cond.code yX1_distribute cX1_distribute 5 none, Cond.fieldLink RX1 33 "IrrigationDistrict$Flow" "supply" "I", Cond.fieldLink RX1 40 "IrrigationDistrict$State" "userCount" "I", Cond.fieldLink RX1 9 "IrrigationDistrict$Flow" "asked" "[I", Cond.fieldLink RX1 15 "IrrigationDistrict$Flow" "got" "[I", Cond.fieldLink RX1 47 "IrrigationDistrict$State" "rule" "I", Cond.fieldLink RX1 65 "IrrigationDistrict$State" "byAge" "[I", Cond.methodLink RX1 27 yX2_supplyNow, Cond.instanceMethod yX2_supplyNow, Cond.selects RX2 yX2_supplyNow yX2_supplyNow, Cond.initialized RX2, Cond.code yX2_supplyNow cX2_supplyNow 1 (some .int), Cond.fieldLink RX2 27 "IrrigationDistrict$State" "supply" "[I", Cond.methodLink RX2 94 yX2_hourOfDay, Cond.instanceMethod yX2_hourOfDay, Cond.selects RX2 yX2_hourOfDay yX2_hourOfDay]
def wsX5_judge_r2 : List Cond := [Cond.code yX2_hourOfDay cX2_hourOfDay 1 (some .int), Cond.fieldLink RX2 71 "IrrigationDistrict$State" "hoursPassed" "I", Cond.methodLink RX2 91 yJ9_floorMod_7cf53, Cond.static yJ9_floorMod_7cf53, Cond.initialized RJ9, Cond.code yJ9_floorMod_7cf53 cJ9_floorMod_7cf53 3 (some .int), Cond.methodLink RX1 37 yX2_userInTurn, Cond.instanceMethod yX2_userInTurn, Cond.selects RX2 yX2_userInTurn yX2_userInTurn, Cond.code yX2_userInTurn cX2_userInTurn 4 (some .int), Cond.fieldLink RX2 64 "IrrigationDistrict$State" "userCount" "I", Cond.fieldLink RX2 19 "IrrigationDistrict$State" "user" "[LIrrigationDistrict$User;", Cond.fieldLink RX2 98 "IrrigationDistrict$User" "turnHours" "I", Cond.fieldLink RX2 33 "IrrigationDistrict$State" "rule" "I", Cond.methodLink RX1 43 yX2_unitsAsked, Cond.instanceMethod yX2_unitsAsked, Cond.selects RX2 yX2_unitsAsked yX2_unitsAsked, Cond.code yX2_unitsAsked cX2_unitsAsked 5 (some .int), Cond.fieldLink RX2 101 "IrrigationDistrict$User" "shut" "Z", Cond.fieldLink RX2 112 "IrrigationDistrict$User" "right" "I", Cond.methodLink RX2 115 Lib.Math.min.name, Cond.static Lib.Math.min.name, Cond.initialized "java/lang/Math", Cond.code Lib.Math.min.name Lib.Math.min.code 2 (some .int)]
def wsX5_judge_r3 : List Cond := [Cond.methodLink RX2 105 yX4_needAt, Cond.instanceMethod yX4_needAt, Cond.selects RX4 yX4_needAt yX4_needAt, Cond.initialized RX4, Cond.code yX4_needAt cX4_needAt 2 (some .int), Cond.fieldLink RX4 22 "IrrigationDistrict$User" "from" "I", Cond.fieldLink RX4 25 "IrrigationDistrict$User" "to" "I", Cond.fieldLink RX4 19 "IrrigationDistrict$User" "need" "I", Cond.methodLink RX2 109 yX4_room, Cond.instanceMethod yX4_room, Cond.selects RX4 yX4_room yX4_room, Cond.code yX4_room cX4_room 1 (some .int), Cond.fieldLink RX4 28 "IrrigationDistrict$User" "capacity" "I", Cond.fieldLink RX4 31 "IrrigationDistrict$User" "content" "I", Cond.methodLink RX1 50 yX1_giveGreatestShares, Cond.instanceMethod yX1_giveGreatestShares, Cond.selects RX1 yX1_giveGreatestShares yX1_giveGreatestShares, Cond.code yX1_giveGreatestShares cX1_giveGreatestShares 4 none, Cond.methodLink RX1 91 yX1_giveShares, Cond.instanceMethod yX1_giveShares, Cond.selects RX1 yX1_giveShares yX1_giveShares, Cond.code yX1_giveShares cX1_giveShares 4 none, Cond.methodLink RX1 54 yX1_spread, Cond.instanceMethod yX1_spread]
def wsX5_judge_r4 : List Cond := [Cond.selects RX1 yX1_spread yX1_spread, Cond.code yX1_spread cX1_spread 3 none, Cond.fieldLink RX1 77 "IrrigationDistrict$State" "ditchCount" "I", Cond.fieldLink RX1 21 "IrrigationDistrict$Flow" "passed" "[I", Cond.fieldLink RX1 68 "IrrigationDistrict$State" "user" "[LIrrigationDistrict$User;", Cond.fieldLink RX1 72 "IrrigationDistrict$User" "ditch" "I", Cond.fieldLink RX1 18 "IrrigationDistrict$Flow" "into" "[I", Cond.fieldLink RX1 80 "IrrigationDistrict$State" "ditch" "[LIrrigationDistrict$Ditch;", Cond.fieldLink RX1 88 "IrrigationDistrict$Ditch" "parent" "I", Cond.methodLink RX1 98 yX0_inflowFor, Cond.instanceMethod yX0_inflowFor, Cond.selects RX0 yX0_inflowFor yX0_inflowFor, Cond.initialized RX0, Cond.code yX0_inflowFor cX0_inflowFor 3 (some .int), Cond.fieldLink RX0 16 "IrrigationDistrict$Ditch" "loss" "I", Cond.methodLink RX1 94 yX1_isPossible, Cond.instanceMethod yX1_isPossible, Cond.selects RX1 yX1_isPossible yX1_isPossible, Cond.code yX1_isPossible cX1_isPossible 3 (some .boolean), Cond.fieldLink RX1 83 "IrrigationDistrict$Ditch" "gate" "I", Cond.methodLink RX1 57 yX2_hasUser, Cond.instanceMethod yX2_hasUser, Cond.selects RX2 yX2_hasUser yX2_hasUser, Cond.code yX2_hasUser cX2_hasUser 2 (some .boolean)]
def wsX5_judge_r5 : List Cond := [Cond.methodLink RX1 61 yX1_serve, Cond.instanceMethod yX1_serve, Cond.selects RX1 yX1_serve yX1_serve, Cond.code yX1_serve cX1_serve 4 none, Cond.methodLink RX1 106 Lib.Math.min.name, Cond.methodLink RX1 102 yX1_mostFor, Cond.instanceMethod yX1_mostFor, Cond.selects RX1 yX1_mostFor yX1_mostFor, Cond.code yX1_mostFor cX1_mostFor 6 (some .int), Cond.fieldLink RX1 24 "IrrigationDistrict$Flow" "most" "[I", Cond.methodLink RX1 111 yX0_passedOf, Cond.instanceMethod yX0_passedOf, Cond.selects RX0 yX0_passedOf yX0_passedOf, Cond.code yX0_passedOf cX0_passedOf 2 (some .int), Cond.methodLink RX5 165 yX1_isContent, Cond.instanceMethod yX1_isContent, Cond.selects RX1 yX1_isContent yX1_isContent, Cond.code yX1_isContent cX1_isContent 2 (some .boolean), Cond.methodLink RX5 197 yX5_gainOf, Cond.instanceMethod yX5_gainOf, Cond.selects RX5 yX5_gainOf yX5_gainOf, Cond.initialized RX5, Cond.code yX5_gainOf cX5_gainOf 4 (some .int), Cond.fieldLink RX5 16 "IrrigationDistrict" "trial" "LIrrigationDistrict$State;"]
def wsX5_judge_r6 : List Cond := [Cond.fieldLink RX5 92 "IrrigationDistrict$State" "user" "[LIrrigationDistrict$User;", Cond.fieldLink RX5 203 "IrrigationDistrict$User" "shut" "Z", Cond.methodLink RX5 172 yX2_copyFrom, Cond.instanceMethod yX2_copyFrom, Cond.selects RX2 yX2_copyFrom yX2_copyFrom, Cond.code yX2_copyFrom cX2_copyFrom 4 none, Cond.fieldLink RX2 49 "IrrigationDistrict$State" "ditchCount" "I", Cond.fieldLink RX2 11 "IrrigationDistrict$State" "ditch" "[LIrrigationDistrict$Ditch;", Cond.fieldLink RX2 52 "IrrigationDistrict$Ditch" "parent" "I", Cond.fieldLink RX2 55 "IrrigationDistrict$Ditch" "gate" "I", Cond.fieldLink RX2 58 "IrrigationDistrict$Ditch" "loss" "I", Cond.fieldLink RX2 23 "IrrigationDistrict$State" "byAge" "[I", Cond.fieldLink RX2 30 "IrrigationDistrict$State" "sums" "[I", Cond.fieldLink RX2 37 "IrrigationDistrict$State" "futilePercent" "I", Cond.methodLink RX2 61 yX0_begin, Cond.instanceMethod yX0_begin, Cond.selects RX0 yX0_begin yX0_begin, Cond.code yX0_begin cX0_begin 4 none, Cond.fieldLink RX0 7 "IrrigationDistrict$Ditch" "parent" "I", Cond.fieldLink RX0 13 "IrrigationDistrict$Ditch" "gate" "I", Cond.methodLink RX2 67 yX4_copyFrom, Cond.instanceMethod yX4_copyFrom, Cond.selects RX4 yX4_copyFrom yX4_copyFrom, Cond.code yX4_copyFrom cX4_copyFrom 2 none]
def wsX5_judge_r7 : List Cond := [Cond.fieldLink RX4 7 "IrrigationDistrict$User" "ditch" "I", Cond.fieldLink RX4 13 "IrrigationDistrict$User" "year" "I", Cond.fieldLink RX4 16 "IrrigationDistrict$User" "right" "I", Cond.fieldLink RX4 34 "IrrigationDistrict$User" "leak" "I", Cond.fieldLink RX4 37 "IrrigationDistrict$User" "turnHours" "I", Cond.fieldLink RX4 40 "IrrigationDistrict$User" "unitsMissed" "I", Cond.fieldLink RX4 43 "IrrigationDistrict$User" "shut" "Z", Cond.methodLink RX4 47 yX4_begin, Cond.instanceMethod yX4_begin, Cond.selects RX4 yX4_begin yX4_begin, Cond.code yX4_begin cX4_begin 4 none]
def wsX5_judge : List Cond := .code yX5_judge cX5_judge 5 (some .int) :: ((wsX5_judge_r1 ++ (wsX5_judge_r2 ++ (wsX5_judge_r3 ++ (wsX5_judge_r4 ++ (wsX5_judge_r5 ++ (wsX5_judge_r6 ++ wsX5_judge_r7)))))) ++ wsX50 ++ wsX10 ++ wsX20 ++ wsX40 ++ wsX00)
def wsX5_complaint_r1 : List Cond := [Cond.fieldLink RX5 10 "IrrigationDistrict" "now" "LIrrigationDistrict$State;", Cond.methodLink RX5 86 yX2_hasUser, Cond.instanceMethod yX2_hasUser, Cond.selects RX2 yX2_hasUser yX2_hasUser, Cond.initialized RX2, Cond.code yX2_hasUser cX2_hasUser 2 (some .boolean), Cond.fieldLink RX2 64 "IrrigationDistrict$State" "userCount" "I", Cond.methodLink RX5 194 yX2_isYounger, Cond.instanceMethod yX2_isYounger, Cond.selects RX2 yX2_isYounger yX2_isYounger, Cond.code yX2_isYounger cX2_isYounger 5 (some .boolean), Cond.fieldLink RX2 19 "IrrigationDistrict$State" "user" "[LIrrigationDistrict$User;", Cond.fieldLink RX2 81 "IrrigationDistrict$User" "year" "I", Cond.methodLink RX5 200 yX5_judge, Cond.instanceMethod yX5_judge, Cond.selects RX5 yX5_judge yX5_judge, Cond.initialized RX5, Cond.code yX5_judge cX5_judge 5 (some .int), Cond.fieldLink RX5 30 "IrrigationDistrict" "flow" "LIrrigationDistrict$Flow;", Cond.fieldLink RX5 155 "IrrigationDistrict$Flow" "got" "[I", Cond.fieldLink RX5 135 "IrrigationDistrict$State" "futilePercent" "I", Cond.methodLink RX5 151 yX1_distribute, Cond.instanceMethod yX1_distribute, Cond.selects RX1 yX1_distribute yX1_distribute]
def wsX5_complaint_r2 : List Cond := [Cond.initialized RX1, Cond.code yX1_distribute cX1_distribute 5 none, Cond.fieldLink RX1 33 "IrrigationDistrict$Flow" "supply" "I", Cond.fieldLink RX1 40 "IrrigationDistrict$State" "userCount" "I", Cond.fieldLink RX1 9 "IrrigationDistrict$Flow" "asked" "[I", Cond.fieldLink RX1 15 "IrrigationDistrict$Flow" "got" "[I", Cond.fieldLink RX1 47 "IrrigationDistrict$State" "rule" "I", Cond.fieldLink RX1 65 "IrrigationDistrict$State" "byAge" "[I", Cond.methodLink RX1 27 yX2_supplyNow, Cond.instanceMethod yX2_supplyNow, Cond.selects RX2 yX2_supplyNow yX2_supplyNow, Cond.code yX2_supplyNow cX2_supplyNow 1 (some .int), Cond.fieldLink RX2 27 "IrrigationDistrict$State" "supply" "[I", Cond.methodLink RX2 94 yX2_hourOfDay, Cond.instanceMethod yX2_hourOfDay, Cond.selects RX2 yX2_hourOfDay yX2_hourOfDay, Cond.code yX2_hourOfDay cX2_hourOfDay 1 (some .int), Cond.fieldLink RX2 71 "IrrigationDistrict$State" "hoursPassed" "I", Cond.methodLink RX2 91 yJ9_floorMod_7cf53, Cond.static yJ9_floorMod_7cf53, Cond.initialized RJ9, Cond.code yJ9_floorMod_7cf53 cJ9_floorMod_7cf53 3 (some .int), Cond.methodLink RX1 37 yX2_userInTurn, Cond.instanceMethod yX2_userInTurn]
def wsX5_complaint_r3 : List Cond := [Cond.selects RX2 yX2_userInTurn yX2_userInTurn, Cond.code yX2_userInTurn cX2_userInTurn 4 (some .int), Cond.fieldLink RX2 98 "IrrigationDistrict$User" "turnHours" "I", Cond.fieldLink RX2 33 "IrrigationDistrict$State" "rule" "I", Cond.methodLink RX1 43 yX2_unitsAsked, Cond.instanceMethod yX2_unitsAsked, Cond.selects RX2 yX2_unitsAsked yX2_unitsAsked, Cond.code yX2_unitsAsked cX2_unitsAsked 5 (some .int), Cond.fieldLink RX2 101 "IrrigationDistrict$User" "shut" "Z", Cond.fieldLink RX2 112 "IrrigationDistrict$User" "right" "I", Cond.methodLink RX2 115 Lib.Math.min.name, Cond.static Lib.Math.min.name, Cond.initialized "java/lang/Math", Cond.code Lib.Math.min.name Lib.Math.min.code 2 (some .int), Cond.methodLink RX2 105 yX4_needAt, Cond.instanceMethod yX4_needAt, Cond.selects RX4 yX4_needAt yX4_needAt, Cond.initialized RX4, Cond.code yX4_needAt cX4_needAt 2 (some .int), Cond.fieldLink RX4 22 "IrrigationDistrict$User" "from" "I", Cond.fieldLink RX4 25 "IrrigationDistrict$User" "to" "I", Cond.fieldLink RX4 19 "IrrigationDistrict$User" "need" "I", Cond.methodLink RX2 109 yX4_room, Cond.instanceMethod yX4_room]
def wsX5_complaint_r4 : List Cond := [Cond.selects RX4 yX4_room yX4_room, Cond.code yX4_room cX4_room 1 (some .int), Cond.fieldLink RX4 28 "IrrigationDistrict$User" "capacity" "I", Cond.fieldLink RX4 31 "IrrigationDistrict$User" "content" "I", Cond.methodLink RX1 50 yX1_giveGreatestShares, Cond.instanceMethod yX1_giveGreatestShares, Cond.selects RX1 yX1_giveGreatestShares yX1_giveGreatestShares, Cond.code yX1_giveGreatestShares cX1_giveGreatestShares 4 none, Cond.methodLink RX1 91 yX1_giveShares, Cond.instanceMethod yX1_giveShares, Cond.selects RX1 yX1_giveShares yX1_giveShares, Cond.code yX1_giveShares cX1_giveShares 4 none, Cond.methodLink RX1 54 yX1_spread, Cond.instanceMethod yX1_spread, Cond.selects RX1 yX1_spread yX1_spread, Cond.code yX1_spread cX1_spread 3 none, Cond.fieldLink RX1 77 "IrrigationDistrict$State" "ditchCount" "I", Cond.fieldLink RX1 21 "IrrigationDistrict$Flow" "passed" "[I", Cond.fieldLink RX1 68 "IrrigationDistrict$State" "user" "[LIrrigationDistrict$User;", Cond.fieldLink RX1 72 "IrrigationDistrict$User" "ditch" "I", Cond.fieldLink RX1 18 "IrrigationDistrict$Flow" "into" "[I", Cond.fieldLink RX1 80 "IrrigationDistrict$State" "ditch" "[LIrrigationDistrict$Ditch;", Cond.fieldLink RX1 88 "IrrigationDistrict$Ditch" "parent" "I", Cond.methodLink RX1 98 yX0_inflowFor]
def wsX5_complaint_r5 : List Cond := [Cond.instanceMethod yX0_inflowFor, Cond.selects RX0 yX0_inflowFor yX0_inflowFor, Cond.initialized RX0, Cond.code yX0_inflowFor cX0_inflowFor 3 (some .int), Cond.fieldLink RX0 16 "IrrigationDistrict$Ditch" "loss" "I", Cond.methodLink RX1 94 yX1_isPossible, Cond.instanceMethod yX1_isPossible, Cond.selects RX1 yX1_isPossible yX1_isPossible, Cond.code yX1_isPossible cX1_isPossible 3 (some .boolean), Cond.fieldLink RX1 83 "IrrigationDistrict$Ditch" "gate" "I", Cond.methodLink RX1 57 yX2_hasUser, Cond.methodLink RX1 61 yX1_serve, Cond.instanceMethod yX1_serve, Cond.selects RX1 yX1_serve yX1_serve, Cond.code yX1_serve cX1_serve 4 none, Cond.methodLink RX1 106 Lib.Math.min.name, Cond.methodLink RX1 102 yX1_mostFor, Cond.instanceMethod yX1_mostFor, Cond.selects RX1 yX1_mostFor yX1_mostFor, Cond.code yX1_mostFor cX1_mostFor 6 (some .int), Cond.fieldLink RX1 24 "IrrigationDistrict$Flow" "most" "[I", Cond.methodLink RX1 111 yX0_passedOf, Cond.instanceMethod yX0_passedOf, Cond.selects RX0 yX0_passedOf yX0_passedOf]
def wsX5_complaint_r6 : List Cond := [Cond.code yX0_passedOf cX0_passedOf 2 (some .int), Cond.methodLink RX5 165 yX1_isContent, Cond.instanceMethod yX1_isContent, Cond.selects RX1 yX1_isContent yX1_isContent, Cond.code yX1_isContent cX1_isContent 2 (some .boolean), Cond.methodLink RX5 197 yX5_gainOf, Cond.instanceMethod yX5_gainOf, Cond.selects RX5 yX5_gainOf yX5_gainOf, Cond.code yX5_gainOf cX5_gainOf 4 (some .int), Cond.fieldLink RX5 16 "IrrigationDistrict" "trial" "LIrrigationDistrict$State;", Cond.fieldLink RX5 92 "IrrigationDistrict$State" "user" "[LIrrigationDistrict$User;", Cond.fieldLink RX5 203 "IrrigationDistrict$User" "shut" "Z", Cond.methodLink RX5 172 yX2_copyFrom, Cond.instanceMethod yX2_copyFrom, Cond.selects RX2 yX2_copyFrom yX2_copyFrom, Cond.code yX2_copyFrom cX2_copyFrom 4 none, Cond.fieldLink RX2 49 "IrrigationDistrict$State" "ditchCount" "I", Cond.fieldLink RX2 11 "IrrigationDistrict$State" "ditch" "[LIrrigationDistrict$Ditch;", Cond.fieldLink RX2 52 "IrrigationDistrict$Ditch" "parent" "I", Cond.fieldLink RX2 55 "IrrigationDistrict$Ditch" "gate" "I", Cond.fieldLink RX2 58 "IrrigationDistrict$Ditch" "loss" "I", Cond.fieldLink RX2 23 "IrrigationDistrict$State" "byAge" "[I", Cond.fieldLink RX2 30 "IrrigationDistrict$State" "sums" "[I", Cond.fieldLink RX2 37 "IrrigationDistrict$State" "futilePercent" "I"]
def wsX5_complaint_r7 : List Cond := [Cond.methodLink RX2 61 yX0_begin, Cond.instanceMethod yX0_begin, Cond.selects RX0 yX0_begin yX0_begin, Cond.code yX0_begin cX0_begin 4 none, Cond.fieldLink RX0 7 "IrrigationDistrict$Ditch" "parent" "I", Cond.fieldLink RX0 13 "IrrigationDistrict$Ditch" "gate" "I", Cond.methodLink RX2 67 yX4_copyFrom, Cond.instanceMethod yX4_copyFrom, Cond.selects RX4 yX4_copyFrom yX4_copyFrom, Cond.code yX4_copyFrom cX4_copyFrom 2 none, Cond.fieldLink RX4 7 "IrrigationDistrict$User" "ditch" "I", Cond.fieldLink RX4 13 "IrrigationDistrict$User" "year" "I", Cond.fieldLink RX4 16 "IrrigationDistrict$User" "right" "I", Cond.fieldLink RX4 34 "IrrigationDistrict$User" "leak" "I", Cond.fieldLink RX4 37 "IrrigationDistrict$User" "turnHours" "I", Cond.fieldLink RX4 40 "IrrigationDistrict$User" "unitsMissed" "I", Cond.fieldLink RX4 43 "IrrigationDistrict$User" "shut" "Z", Cond.methodLink RX4 47 yX4_begin, Cond.instanceMethod yX4_begin, Cond.selects RX4 yX4_begin yX4_begin, Cond.code yX4_begin cX4_begin 4 none]
def wsX5_complaint : List Cond := .code yX5_complaint cX5_complaint 3 (some .int) :: ((wsX5_complaint_r1 ++ (wsX5_complaint_r2 ++ (wsX5_complaint_r3 ++ (wsX5_complaint_r4 ++ (wsX5_complaint_r5 ++ (wsX5_complaint_r6 ++ wsX5_complaint_r7)))))) ++ wsX50 ++ wsX20 ++ wsX40 ++ wsX10 ++ wsX00)
def wsX5_settle_r1 : List Cond := [Cond.fieldLink RX5 10 "IrrigationDistrict" "now" "LIrrigationDistrict$State;", Cond.fieldLink RX5 83 "IrrigationDistrict$State" "userCount" "I", Cond.fieldLink RX5 138 "IrrigationDistrict$State" "byAge" "[I", Cond.fieldLink RX5 92 "IrrigationDistrict$State" "user" "[LIrrigationDistrict$User;", Cond.fieldLink RX5 203 "IrrigationDistrict$User" "shut" "Z", Cond.methodLink RX5 200 yX5_judge, Cond.instanceMethod yX5_judge, Cond.selects RX5 yX5_judge yX5_judge, Cond.initialized RX5, Cond.code yX5_judge cX5_judge 5 (some .int), Cond.fieldLink RX5 30 "IrrigationDistrict" "flow" "LIrrigationDistrict$Flow;", Cond.fieldLink RX5 155 "IrrigationDistrict$Flow" "got" "[I", Cond.fieldLink RX5 135 "IrrigationDistrict$State" "futilePercent" "I", Cond.methodLink RX5 151 yX1_distribute, Cond.instanceMethod yX1_distribute, Cond.selects RX1 yX1_distribute yX1_distribute, Cond.initialized RX1, Cond.code yX1_distribute cX1_distribute 5 none, Cond.fieldLink RX1 33 "IrrigationDistrict$Flow" "supply" "I", Cond.fieldLink RX1 40 "IrrigationDistrict$State" "userCount" "I", Cond.fieldLink RX1 9 "IrrigationDistrict$Flow" "asked" "[I", Cond.fieldLink RX1 15 "IrrigationDistrict$Flow" "got" "[I", Cond.fieldLink RX1 47 "IrrigationDistrict$State" "rule" "I", Cond.fieldLink RX1 65 "IrrigationDistrict$State" "byAge" "[I"]
def wsX5_settle_r2 : List Cond := [Cond.methodLink RX1 27 yX2_supplyNow, Cond.instanceMethod yX2_supplyNow, Cond.selects RX2 yX2_supplyNow yX2_supplyNow, Cond.initialized RX2, Cond.code yX2_supplyNow cX2_supplyNow 1 (some .int), Cond.fieldLink RX2 27 "IrrigationDistrict$State" "supply" "[I", Cond.methodLink RX2 94 yX2_hourOfDay, Cond.instanceMethod yX2_hourOfDay, Cond.selects RX2 yX2_hourOfDay yX2_hourOfDay, Cond.code yX2_hourOfDay cX2_hourOfDay 1 (some .int), Cond.fieldLink RX2 71 "IrrigationDistrict$State" "hoursPassed" "I", Cond.methodLink RX2 91 yJ9_floorMod_7cf53, Cond.static yJ9_floorMod_7cf53, Cond.initialized RJ9, Cond.code yJ9_floorMod_7cf53 cJ9_floorMod_7cf53 3 (some .int), Cond.methodLink RX1 37 yX2_userInTurn, Cond.instanceMethod yX2_userInTurn, Cond.selects RX2 yX2_userInTurn yX2_userInTurn, Cond.code yX2_userInTurn cX2_userInTurn 4 (some .int), Cond.fieldLink RX2 64 "IrrigationDistrict$State" "userCount" "I", Cond.fieldLink RX2 19 "IrrigationDistrict$State" "user" "[LIrrigationDistrict$User;", Cond.fieldLink RX2 98 "IrrigationDistrict$User" "turnHours" "I", Cond.fieldLink RX2 33 "IrrigationDistrict$State" "rule" "I", Cond.methodLink RX1 43 yX2_unitsAsked]
def wsX5_settle_r3 : List Cond := [Cond.instanceMethod yX2_unitsAsked, Cond.selects RX2 yX2_unitsAsked yX2_unitsAsked, Cond.code yX2_unitsAsked cX2_unitsAsked 5 (some .int), Cond.fieldLink RX2 101 "IrrigationDistrict$User" "shut" "Z", Cond.fieldLink RX2 112 "IrrigationDistrict$User" "right" "I", Cond.methodLink RX2 115 Lib.Math.min.name, Cond.static Lib.Math.min.name, Cond.initialized "java/lang/Math", Cond.code Lib.Math.min.name Lib.Math.min.code 2 (some .int), Cond.methodLink RX2 105 yX4_needAt, Cond.instanceMethod yX4_needAt, Cond.selects RX4 yX4_needAt yX4_needAt, Cond.initialized RX4, Cond.code yX4_needAt cX4_needAt 2 (some .int), Cond.fieldLink RX4 22 "IrrigationDistrict$User" "from" "I", Cond.fieldLink RX4 25 "IrrigationDistrict$User" "to" "I", Cond.fieldLink RX4 19 "IrrigationDistrict$User" "need" "I", Cond.methodLink RX2 109 yX4_room, Cond.instanceMethod yX4_room, Cond.selects RX4 yX4_room yX4_room, Cond.code yX4_room cX4_room 1 (some .int), Cond.fieldLink RX4 28 "IrrigationDistrict$User" "capacity" "I", Cond.fieldLink RX4 31 "IrrigationDistrict$User" "content" "I", Cond.methodLink RX1 50 yX1_giveGreatestShares]
def wsX5_settle_r4 : List Cond := [Cond.instanceMethod yX1_giveGreatestShares, Cond.selects RX1 yX1_giveGreatestShares yX1_giveGreatestShares, Cond.code yX1_giveGreatestShares cX1_giveGreatestShares 4 none, Cond.methodLink RX1 91 yX1_giveShares, Cond.instanceMethod yX1_giveShares, Cond.selects RX1 yX1_giveShares yX1_giveShares, Cond.code yX1_giveShares cX1_giveShares 4 none, Cond.methodLink RX1 54 yX1_spread, Cond.instanceMethod yX1_spread, Cond.selects RX1 yX1_spread yX1_spread, Cond.code yX1_spread cX1_spread 3 none, Cond.fieldLink RX1 77 "IrrigationDistrict$State" "ditchCount" "I", Cond.fieldLink RX1 21 "IrrigationDistrict$Flow" "passed" "[I", Cond.fieldLink RX1 68 "IrrigationDistrict$State" "user" "[LIrrigationDistrict$User;", Cond.fieldLink RX1 72 "IrrigationDistrict$User" "ditch" "I", Cond.fieldLink RX1 18 "IrrigationDistrict$Flow" "into" "[I", Cond.fieldLink RX1 80 "IrrigationDistrict$State" "ditch" "[LIrrigationDistrict$Ditch;", Cond.fieldLink RX1 88 "IrrigationDistrict$Ditch" "parent" "I", Cond.methodLink RX1 98 yX0_inflowFor, Cond.instanceMethod yX0_inflowFor, Cond.selects RX0 yX0_inflowFor yX0_inflowFor, Cond.initialized RX0, Cond.code yX0_inflowFor cX0_inflowFor 3 (some .int), Cond.fieldLink RX0 16 "IrrigationDistrict$Ditch" "loss" "I"]
def wsX5_settle_r5 : List Cond := [Cond.methodLink RX1 94 yX1_isPossible, Cond.instanceMethod yX1_isPossible, Cond.selects RX1 yX1_isPossible yX1_isPossible, Cond.code yX1_isPossible cX1_isPossible 3 (some .boolean), Cond.fieldLink RX1 83 "IrrigationDistrict$Ditch" "gate" "I", Cond.methodLink RX1 57 yX2_hasUser, Cond.instanceMethod yX2_hasUser, Cond.selects RX2 yX2_hasUser yX2_hasUser, Cond.code yX2_hasUser cX2_hasUser 2 (some .boolean), Cond.methodLink RX1 61 yX1_serve, Cond.instanceMethod yX1_serve, Cond.selects RX1 yX1_serve yX1_serve, Cond.code yX1_serve cX1_serve 4 none, Cond.methodLink RX1 106 Lib.Math.min.name, Cond.methodLink RX1 102 yX1_mostFor, Cond.instanceMethod yX1_mostFor, Cond.selects RX1 yX1_mostFor yX1_mostFor, Cond.code yX1_mostFor cX1_mostFor 6 (some .int), Cond.fieldLink RX1 24 "IrrigationDistrict$Flow" "most" "[I", Cond.methodLink RX1 111 yX0_passedOf, Cond.instanceMethod yX0_passedOf, Cond.selects RX0 yX0_passedOf yX0_passedOf, Cond.code yX0_passedOf cX0_passedOf 2 (some .int), Cond.methodLink RX5 165 yX1_isContent]
def wsX5_settle_r6 : List Cond := [Cond.instanceMethod yX1_isContent, Cond.selects RX1 yX1_isContent yX1_isContent, Cond.code yX1_isContent cX1_isContent 2 (some .boolean), Cond.methodLink RX5 197 yX5_gainOf, Cond.instanceMethod yX5_gainOf, Cond.selects RX5 yX5_gainOf yX5_gainOf, Cond.code yX5_gainOf cX5_gainOf 4 (some .int), Cond.fieldLink RX5 16 "IrrigationDistrict" "trial" "LIrrigationDistrict$State;", Cond.methodLink RX5 172 yX2_copyFrom, Cond.instanceMethod yX2_copyFrom, Cond.selects RX2 yX2_copyFrom yX2_copyFrom, Cond.code yX2_copyFrom cX2_copyFrom 4 none, Cond.fieldLink RX2 49 "IrrigationDistrict$State" "ditchCount" "I", Cond.fieldLink RX2 11 "IrrigationDistrict$State" "ditch" "[LIrrigationDistrict$Ditch;", Cond.fieldLink RX2 52 "IrrigationDistrict$Ditch" "parent" "I", Cond.fieldLink RX2 55 "IrrigationDistrict$Ditch" "gate" "I", Cond.fieldLink RX2 58 "IrrigationDistrict$Ditch" "loss" "I", Cond.fieldLink RX2 23 "IrrigationDistrict$State" "byAge" "[I", Cond.fieldLink RX2 30 "IrrigationDistrict$State" "sums" "[I", Cond.fieldLink RX2 37 "IrrigationDistrict$State" "futilePercent" "I", Cond.methodLink RX2 61 yX0_begin, Cond.instanceMethod yX0_begin, Cond.selects RX0 yX0_begin yX0_begin, Cond.code yX0_begin cX0_begin 4 none]
def wsX5_settle_r7 : List Cond := [Cond.fieldLink RX0 7 "IrrigationDistrict$Ditch" "parent" "I", Cond.fieldLink RX0 13 "IrrigationDistrict$Ditch" "gate" "I", Cond.methodLink RX2 67 yX4_copyFrom, Cond.instanceMethod yX4_copyFrom, Cond.selects RX4 yX4_copyFrom yX4_copyFrom, Cond.code yX4_copyFrom cX4_copyFrom 2 none, Cond.fieldLink RX4 7 "IrrigationDistrict$User" "ditch" "I", Cond.fieldLink RX4 13 "IrrigationDistrict$User" "year" "I", Cond.fieldLink RX4 16 "IrrigationDistrict$User" "right" "I", Cond.fieldLink RX4 34 "IrrigationDistrict$User" "leak" "I", Cond.fieldLink RX4 37 "IrrigationDistrict$User" "turnHours" "I", Cond.fieldLink RX4 40 "IrrigationDistrict$User" "unitsMissed" "I", Cond.fieldLink RX4 43 "IrrigationDistrict$User" "shut" "Z", Cond.methodLink RX4 47 yX4_begin, Cond.instanceMethod yX4_begin, Cond.selects RX4 yX4_begin yX4_begin, Cond.code yX4_begin cX4_begin 4 none]
def wsX5_settle : List Cond := .code yX5_settle cX5_settle 4 (some .int) :: ((wsX5_settle_r1 ++ (wsX5_settle_r2 ++ (wsX5_settle_r3 ++ (wsX5_settle_r4 ++ (wsX5_settle_r5 ++ (wsX5_settle_r6 ++ wsX5_settle_r7)))))) ++ wsX50 ++ wsX20 ++ wsX40 ++ wsX10 ++ wsX00)
def wsX5_isShut : List Cond := .code yX5_isShut cX5_isShut 2 (some .int) :: ([.fieldLink RX5 10 "IrrigationDistrict" "now" "LIrrigationDistrict$State;", .fieldLink RX5 92 "IrrigationDistrict$State" "user" "[LIrrigationDistrict$User;", .fieldLink RX5 203 "IrrigationDistrict$User" "shut" "Z", .methodLink RX5 86 yX2_hasUser, .instanceMethod yX2_hasUser, .selects RX2 yX2_hasUser yX2_hasUser, .initialized RX2, .code yX2_hasUser cX2_hasUser 2 (some .boolean), .fieldLink RX2 64 "IrrigationDistrict$State" "userCount" "I"] ++ wsX50 ++ wsX20 ++ wsX40)
def wsX5_append : List Cond := .code yX5_append cX5_append 2 (some .int) :: ([.fieldLink RX5 37 "IrrigationDistrict" "text" "LIrrigationDistrict$Text;", .fieldLink RX5 214 "IrrigationDistrict$Text" "length" "I", .methodLink RX5 73 yX5_isWithin, .static yX5_isWithin, .initialized RX5, .code yX5_isWithin cX5_isWithin 3 (some .boolean), .methodLink RX5 207 yX3_isFull, .instanceMethod yX3_isFull, .selects RX3 yX3_isFull yX3_isFull, .initialized RX3, .code yX3_isFull cX3_isFull 1 (some .boolean), .fieldLink RX3 19 "IrrigationDistrict$Text" "length" "I", .methodLink RX5 210 yX3_put, .instanceMethod yX3_put, .selects RX3 yX3_put yX3_put, .code yX3_put cX3_put 2 none, .fieldLink RX3 15 "IrrigationDistrict$Text" "letters" "[C", .methodLink RX3 22 yX3_isFull] ++ wsX50 ++ wsX30)
def wsX5_save_r1 : List Cond := [Cond.fieldLink RX5 19 "IrrigationDistrict" "slots" "[LIrrigationDistrict$State;", Cond.fieldLink RX5 10 "IrrigationDistrict" "now" "LIrrigationDistrict$State;", Cond.fieldLink RX5 23 "IrrigationDistrict" "saved" "[Z", Cond.fieldLink RX5 141 "IrrigationDistrict$State" "hoursPassed" "I", Cond.methodLink RX5 73 yX5_isWithin, Cond.static yX5_isWithin, Cond.initialized RX5, Cond.code yX5_isWithin cX5_isWithin 3 (some .boolean), Cond.methodLink RX5 172 yX2_copyFrom, Cond.instanceMethod yX2_copyFrom, Cond.selects RX2 yX2_copyFrom yX2_copyFrom, Cond.initialized RX2, Cond.code yX2_copyFrom cX2_copyFrom 4 none, Cond.fieldLink RX2 49 "IrrigationDistrict$State" "ditchCount" "I", Cond.fieldLink RX2 11 "IrrigationDistrict$State" "ditch" "[LIrrigationDistrict$Ditch;", Cond.fieldLink RX2 52 "IrrigationDistrict$Ditch" "parent" "I", Cond.fieldLink RX2 55 "IrrigationDistrict$Ditch" "gate" "I", Cond.fieldLink RX2 58 "IrrigationDistrict$Ditch" "loss" "I", Cond.fieldLink RX2 64 "IrrigationDistrict$State" "userCount" "I", Cond.fieldLink RX2 19 "IrrigationDistrict$State" "user" "[LIrrigationDistrict$User;", Cond.fieldLink RX2 23 "IrrigationDistrict$State" "byAge" "[I", Cond.fieldLink RX2 27 "IrrigationDistrict$State" "supply" "[I", Cond.fieldLink RX2 30 "IrrigationDistrict$State" "sums" "[I", Cond.fieldLink RX2 33 "IrrigationDistrict$State" "rule" "I"]
def wsX5_save_r2 : List Cond := [Cond.fieldLink RX2 37 "IrrigationDistrict$State" "futilePercent" "I", Cond.fieldLink RX2 71 "IrrigationDistrict$State" "hoursPassed" "I", Cond.methodLink RX2 61 yX0_begin, Cond.instanceMethod yX0_begin, Cond.selects RX0 yX0_begin yX0_begin, Cond.initialized RX0, Cond.code yX0_begin cX0_begin 4 none, Cond.fieldLink RX0 7 "IrrigationDistrict$Ditch" "parent" "I", Cond.fieldLink RX0 13 "IrrigationDistrict$Ditch" "gate" "I", Cond.fieldLink RX0 16 "IrrigationDistrict$Ditch" "loss" "I", Cond.methodLink RX2 67 yX4_copyFrom, Cond.instanceMethod yX4_copyFrom, Cond.selects RX4 yX4_copyFrom yX4_copyFrom, Cond.initialized RX4, Cond.code yX4_copyFrom cX4_copyFrom 2 none, Cond.fieldLink RX4 7 "IrrigationDistrict$User" "ditch" "I", Cond.fieldLink RX4 13 "IrrigationDistrict$User" "year" "I", Cond.fieldLink RX4 16 "IrrigationDistrict$User" "right" "I", Cond.fieldLink RX4 19 "IrrigationDistrict$User" "need" "I", Cond.fieldLink RX4 22 "IrrigationDistrict$User" "from" "I", Cond.fieldLink RX4 25 "IrrigationDistrict$User" "to" "I", Cond.fieldLink RX4 28 "IrrigationDistrict$User" "capacity" "I", Cond.fieldLink RX4 31 "IrrigationDistrict$User" "content" "I", Cond.fieldLink RX4 34 "IrrigationDistrict$User" "leak" "I"]
def wsX5_save_r3 : List Cond := [Cond.fieldLink RX4 37 "IrrigationDistrict$User" "turnHours" "I", Cond.fieldLink RX4 40 "IrrigationDistrict$User" "unitsMissed" "I", Cond.fieldLink RX4 43 "IrrigationDistrict$User" "shut" "Z", Cond.methodLink RX4 47 yX4_begin, Cond.instanceMethod yX4_begin, Cond.selects RX4 yX4_begin yX4_begin, Cond.code yX4_begin cX4_begin 4 none]
def wsX5_save : List Cond := .code yX5_save cX5_save 2 (some .int) :: ((wsX5_save_r1 ++ (wsX5_save_r2 ++ wsX5_save_r3)) ++ wsX50 ++ wsX20 ++ wsX00 ++ wsX40)
def wsX5_restore_r1 : List Cond := [Cond.fieldLink RX5 23 "IrrigationDistrict" "saved" "[Z", Cond.fieldLink RX5 10 "IrrigationDistrict" "now" "LIrrigationDistrict$State;", Cond.fieldLink RX5 19 "IrrigationDistrict" "slots" "[LIrrigationDistrict$State;", Cond.fieldLink RX5 141 "IrrigationDistrict$State" "hoursPassed" "I", Cond.methodLink RX5 73 yX5_isWithin, Cond.static yX5_isWithin, Cond.initialized RX5, Cond.code yX5_isWithin cX5_isWithin 3 (some .boolean), Cond.methodLink RX5 172 yX2_copyFrom, Cond.instanceMethod yX2_copyFrom, Cond.selects RX2 yX2_copyFrom yX2_copyFrom, Cond.initialized RX2, Cond.code yX2_copyFrom cX2_copyFrom 4 none, Cond.fieldLink RX2 49 "IrrigationDistrict$State" "ditchCount" "I", Cond.fieldLink RX2 11 "IrrigationDistrict$State" "ditch" "[LIrrigationDistrict$Ditch;", Cond.fieldLink RX2 52 "IrrigationDistrict$Ditch" "parent" "I", Cond.fieldLink RX2 55 "IrrigationDistrict$Ditch" "gate" "I", Cond.fieldLink RX2 58 "IrrigationDistrict$Ditch" "loss" "I", Cond.fieldLink RX2 64 "IrrigationDistrict$State" "userCount" "I", Cond.fieldLink RX2 19 "IrrigationDistrict$State" "user" "[LIrrigationDistrict$User;", Cond.fieldLink RX2 23 "IrrigationDistrict$State" "byAge" "[I", Cond.fieldLink RX2 27 "IrrigationDistrict$State" "supply" "[I", Cond.fieldLink RX2 30 "IrrigationDistrict$State" "sums" "[I", Cond.fieldLink RX2 33 "IrrigationDistrict$State" "rule" "I"]
def wsX5_restore_r2 : List Cond := [Cond.fieldLink RX2 37 "IrrigationDistrict$State" "futilePercent" "I", Cond.fieldLink RX2 71 "IrrigationDistrict$State" "hoursPassed" "I", Cond.methodLink RX2 61 yX0_begin, Cond.instanceMethod yX0_begin, Cond.selects RX0 yX0_begin yX0_begin, Cond.initialized RX0, Cond.code yX0_begin cX0_begin 4 none, Cond.fieldLink RX0 7 "IrrigationDistrict$Ditch" "parent" "I", Cond.fieldLink RX0 13 "IrrigationDistrict$Ditch" "gate" "I", Cond.fieldLink RX0 16 "IrrigationDistrict$Ditch" "loss" "I", Cond.methodLink RX2 67 yX4_copyFrom, Cond.instanceMethod yX4_copyFrom, Cond.selects RX4 yX4_copyFrom yX4_copyFrom, Cond.initialized RX4, Cond.code yX4_copyFrom cX4_copyFrom 2 none, Cond.fieldLink RX4 7 "IrrigationDistrict$User" "ditch" "I", Cond.fieldLink RX4 13 "IrrigationDistrict$User" "year" "I", Cond.fieldLink RX4 16 "IrrigationDistrict$User" "right" "I", Cond.fieldLink RX4 19 "IrrigationDistrict$User" "need" "I", Cond.fieldLink RX4 22 "IrrigationDistrict$User" "from" "I", Cond.fieldLink RX4 25 "IrrigationDistrict$User" "to" "I", Cond.fieldLink RX4 28 "IrrigationDistrict$User" "capacity" "I", Cond.fieldLink RX4 31 "IrrigationDistrict$User" "content" "I", Cond.fieldLink RX4 34 "IrrigationDistrict$User" "leak" "I"]
def wsX5_restore_r3 : List Cond := [Cond.fieldLink RX4 37 "IrrigationDistrict$User" "turnHours" "I", Cond.fieldLink RX4 40 "IrrigationDistrict$User" "unitsMissed" "I", Cond.fieldLink RX4 43 "IrrigationDistrict$User" "shut" "Z", Cond.methodLink RX4 47 yX4_begin, Cond.instanceMethod yX4_begin, Cond.selects RX4 yX4_begin yX4_begin, Cond.code yX4_begin cX4_begin 4 none]
def wsX5_restore : List Cond := .code yX5_restore cX5_restore 2 (some .int) :: ((wsX5_restore_r1 ++ (wsX5_restore_r2 ++ wsX5_restore_r3)) ++ wsX50 ++ wsX20 ++ wsX00 ++ wsX40)
def wsX5_withUser : List Cond := .code yX5_withUser cX5_withUser 7 (some .long) :: ([.fieldLink RX5 10 "IrrigationDistrict" "now" "LIrrigationDistrict$State;", .fieldLink RX5 92 "IrrigationDistrict$State" "user" "[LIrrigationDistrict$User;", .constantLong RX5 228 (31), .fieldLink RX5 30 "IrrigationDistrict" "flow" "LIrrigationDistrict$Flow;", .fieldLink RX5 234 "IrrigationDistrict$Flow" "asked" "[I", .fieldLink RX5 155 "IrrigationDistrict$Flow" "got" "[I", .fieldLink RX5 113 "IrrigationDistrict$User" "content" "I", .fieldLink RX5 188 "IrrigationDistrict$User" "unitsMissed" "I", .fieldLink RX5 203 "IrrigationDistrict$User" "shut" "Z"] ++ wsX50 ++ wsX20 ++ wsX10 ++ wsX40)
def wsX5_checksum_r1 : List Cond := [Cond.fieldLink RX5 30 "IrrigationDistrict" "flow" "LIrrigationDistrict$Flow;", Cond.fieldLink RX5 10 "IrrigationDistrict" "now" "LIrrigationDistrict$State;", Cond.constantLong RX5 226 (53), Cond.constantLong RX5 228 (31), Cond.fieldLink RX5 141 "IrrigationDistrict$State" "hoursPassed" "I", Cond.fieldLink RX5 57 "IrrigationDistrict$State" "ditchCount" "I", Cond.fieldLink RX5 83 "IrrigationDistrict$State" "userCount" "I", Cond.fieldLink RX5 158 "IrrigationDistrict$Flow" "into" "[I", Cond.fieldLink RX5 185 "IrrigationDistrict$State" "sums" "[I", Cond.methodLink RX5 151 yX1_distribute, Cond.instanceMethod yX1_distribute, Cond.selects RX1 yX1_distribute yX1_distribute, Cond.initialized RX1, Cond.code yX1_distribute cX1_distribute 5 none, Cond.fieldLink RX1 33 "IrrigationDistrict$Flow" "supply" "I", Cond.fieldLink RX1 40 "IrrigationDistrict$State" "userCount" "I", Cond.fieldLink RX1 9 "IrrigationDistrict$Flow" "asked" "[I", Cond.fieldLink RX1 15 "IrrigationDistrict$Flow" "got" "[I", Cond.fieldLink RX1 47 "IrrigationDistrict$State" "rule" "I", Cond.fieldLink RX1 65 "IrrigationDistrict$State" "byAge" "[I", Cond.methodLink RX1 27 yX2_supplyNow, Cond.instanceMethod yX2_supplyNow, Cond.selects RX2 yX2_supplyNow yX2_supplyNow, Cond.initialized RX2]
def wsX5_checksum_r2 : List Cond := [Cond.code yX2_supplyNow cX2_supplyNow 1 (some .int), Cond.fieldLink RX2 27 "IrrigationDistrict$State" "supply" "[I", Cond.methodLink RX2 94 yX2_hourOfDay, Cond.instanceMethod yX2_hourOfDay, Cond.selects RX2 yX2_hourOfDay yX2_hourOfDay, Cond.code yX2_hourOfDay cX2_hourOfDay 1 (some .int), Cond.fieldLink RX2 71 "IrrigationDistrict$State" "hoursPassed" "I", Cond.methodLink RX2 91 yJ9_floorMod_7cf53, Cond.static yJ9_floorMod_7cf53, Cond.initialized RJ9, Cond.code yJ9_floorMod_7cf53 cJ9_floorMod_7cf53 3 (some .int), Cond.methodLink RX1 37 yX2_userInTurn, Cond.instanceMethod yX2_userInTurn, Cond.selects RX2 yX2_userInTurn yX2_userInTurn, Cond.code yX2_userInTurn cX2_userInTurn 4 (some .int), Cond.fieldLink RX2 64 "IrrigationDistrict$State" "userCount" "I", Cond.fieldLink RX2 19 "IrrigationDistrict$State" "user" "[LIrrigationDistrict$User;", Cond.fieldLink RX2 98 "IrrigationDistrict$User" "turnHours" "I", Cond.fieldLink RX2 33 "IrrigationDistrict$State" "rule" "I", Cond.methodLink RX1 43 yX2_unitsAsked, Cond.instanceMethod yX2_unitsAsked, Cond.selects RX2 yX2_unitsAsked yX2_unitsAsked, Cond.code yX2_unitsAsked cX2_unitsAsked 5 (some .int), Cond.fieldLink RX2 101 "IrrigationDistrict$User" "shut" "Z"]
def wsX5_checksum_r3 : List Cond := [Cond.fieldLink RX2 112 "IrrigationDistrict$User" "right" "I", Cond.methodLink RX2 115 Lib.Math.min.name, Cond.static Lib.Math.min.name, Cond.initialized "java/lang/Math", Cond.code Lib.Math.min.name Lib.Math.min.code 2 (some .int), Cond.methodLink RX2 105 yX4_needAt, Cond.instanceMethod yX4_needAt, Cond.selects RX4 yX4_needAt yX4_needAt, Cond.initialized RX4, Cond.code yX4_needAt cX4_needAt 2 (some .int), Cond.fieldLink RX4 22 "IrrigationDistrict$User" "from" "I", Cond.fieldLink RX4 25 "IrrigationDistrict$User" "to" "I", Cond.fieldLink RX4 19 "IrrigationDistrict$User" "need" "I", Cond.methodLink RX2 109 yX4_room, Cond.instanceMethod yX4_room, Cond.selects RX4 yX4_room yX4_room, Cond.code yX4_room cX4_room 1 (some .int), Cond.fieldLink RX4 28 "IrrigationDistrict$User" "capacity" "I", Cond.fieldLink RX4 31 "IrrigationDistrict$User" "content" "I", Cond.methodLink RX1 50 yX1_giveGreatestShares, Cond.instanceMethod yX1_giveGreatestShares, Cond.selects RX1 yX1_giveGreatestShares yX1_giveGreatestShares, Cond.code yX1_giveGreatestShares cX1_giveGreatestShares 4 none, Cond.methodLink RX1 91 yX1_giveShares]
def wsX5_checksum_r4 : List Cond := [Cond.instanceMethod yX1_giveShares, Cond.selects RX1 yX1_giveShares yX1_giveShares, Cond.code yX1_giveShares cX1_giveShares 4 none, Cond.methodLink RX1 54 yX1_spread, Cond.instanceMethod yX1_spread, Cond.selects RX1 yX1_spread yX1_spread, Cond.code yX1_spread cX1_spread 3 none, Cond.fieldLink RX1 77 "IrrigationDistrict$State" "ditchCount" "I", Cond.fieldLink RX1 21 "IrrigationDistrict$Flow" "passed" "[I", Cond.fieldLink RX1 68 "IrrigationDistrict$State" "user" "[LIrrigationDistrict$User;", Cond.fieldLink RX1 72 "IrrigationDistrict$User" "ditch" "I", Cond.fieldLink RX1 18 "IrrigationDistrict$Flow" "into" "[I", Cond.fieldLink RX1 80 "IrrigationDistrict$State" "ditch" "[LIrrigationDistrict$Ditch;", Cond.fieldLink RX1 88 "IrrigationDistrict$Ditch" "parent" "I", Cond.methodLink RX1 98 yX0_inflowFor, Cond.instanceMethod yX0_inflowFor, Cond.selects RX0 yX0_inflowFor yX0_inflowFor, Cond.initialized RX0, Cond.code yX0_inflowFor cX0_inflowFor 3 (some .int), Cond.fieldLink RX0 16 "IrrigationDistrict$Ditch" "loss" "I", Cond.methodLink RX1 94 yX1_isPossible, Cond.instanceMethod yX1_isPossible, Cond.selects RX1 yX1_isPossible yX1_isPossible, Cond.code yX1_isPossible cX1_isPossible 3 (some .boolean)]
def wsX5_checksum_r5 : List Cond := [Cond.fieldLink RX1 83 "IrrigationDistrict$Ditch" "gate" "I", Cond.methodLink RX1 57 yX2_hasUser, Cond.instanceMethod yX2_hasUser, Cond.selects RX2 yX2_hasUser yX2_hasUser, Cond.code yX2_hasUser cX2_hasUser 2 (some .boolean), Cond.methodLink RX1 61 yX1_serve, Cond.instanceMethod yX1_serve, Cond.selects RX1 yX1_serve yX1_serve, Cond.code yX1_serve cX1_serve 4 none, Cond.methodLink RX1 106 Lib.Math.min.name, Cond.methodLink RX1 102 yX1_mostFor, Cond.instanceMethod yX1_mostFor, Cond.selects RX1 yX1_mostFor yX1_mostFor, Cond.code yX1_mostFor cX1_mostFor 6 (some .int), Cond.fieldLink RX1 24 "IrrigationDistrict$Flow" "most" "[I", Cond.methodLink RX1 111 yX0_passedOf, Cond.instanceMethod yX0_passedOf, Cond.selects RX0 yX0_passedOf yX0_passedOf, Cond.code yX0_passedOf cX0_passedOf 2 (some .int), Cond.methodLink RX5 161 yX1_lostIn, Cond.instanceMethod yX1_lostIn, Cond.selects RX1 yX1_lostIn yX1_lostIn, Cond.code yX1_lostIn cX1_lostIn 2 (some .int), Cond.methodLink RX5 230 yX5_withUser]
def wsX5_checksum_r6 : List Cond := [Cond.instanceMethod yX5_withUser, Cond.selects RX5 yX5_withUser yX5_withUser, Cond.initialized RX5, Cond.code yX5_withUser cX5_withUser 7 (some .long), Cond.fieldLink RX5 92 "IrrigationDistrict$State" "user" "[LIrrigationDistrict$User;", Cond.fieldLink RX5 234 "IrrigationDistrict$Flow" "asked" "[I", Cond.fieldLink RX5 155 "IrrigationDistrict$Flow" "got" "[I", Cond.fieldLink RX5 113 "IrrigationDistrict$User" "content" "I", Cond.fieldLink RX5 188 "IrrigationDistrict$User" "unitsMissed" "I", Cond.fieldLink RX5 203 "IrrigationDistrict$User" "shut" "Z", Cond.methodLink RX5 144 yX2_userInTurn]
def wsX5_checksum : List Cond := .code yX5_checksum cX5_checksum 4 (some .long) :: ((wsX5_checksum_r1 ++ (wsX5_checksum_r2 ++ (wsX5_checksum_r3 ++ (wsX5_checksum_r4 ++ (wsX5_checksum_r5 ++ wsX5_checksum_r6))))) ++ wsX50 ++ wsX20 ++ wsX10 ++ wsX40 ++ wsX00)
def wsJ9_max_7cf53 : List Cond := .code yJ9_max_7cf53 cJ9_max_7cf53 2 (some .int) :: ([])
def wsJ9_min_7cf53 : List Cond := .code yJ9_min_7cf53 cJ9_min_7cf53 2 (some .int) :: ([])
def wsL_cell : List Cond := .code yL_cell cL_cell 2 (some .int) :: ([.constant RL 7 (15512099), .constant RL 8 (2147483647)])
def wsL_builds_r1 : List Cond := [Cond.methodLink RL 9 yL_cell, Cond.static yL_cell, Cond.initialized RL, Cond.code yL_cell cL_cell 2 (some .int), Cond.constant RL 7 (15512099), Cond.constant RL 8 (2147483647), Cond.methodLink RL 15 yX5_setDitch, Cond.instanceMethod yX5_setDitch, Cond.selects RX5 yX5_setDitch yX5_setDitch, Cond.initialized RX5, Cond.code yX5_setDitch cX5_setDitch 6 (some .int), Cond.fieldLink RX5 10 "IrrigationDistrict" "now" "LIrrigationDistrict$State;", Cond.fieldLink RX5 61 "IrrigationDistrict$State" "ditch" "[LIrrigationDistrict$Ditch;", Cond.fieldLink RX5 65 "IrrigationDistrict$Ditch" "gate" "I", Cond.fieldLink RX5 70 "IrrigationDistrict$Ditch" "loss" "I", Cond.methodLink RX5 41 yX2_hasDitch, Cond.instanceMethod yX2_hasDitch, Cond.selects RX2 yX2_hasDitch yX2_hasDitch, Cond.initialized RX2, Cond.code yX2_hasDitch cX2_hasDitch 2 (some .boolean), Cond.fieldLink RX2 49 "IrrigationDistrict$State" "ditchCount" "I", Cond.methodLink RX5 45 yX5_areGateAndLoss, Cond.static yX5_areGateAndLoss, Cond.code yX5_areGateAndLoss cX5_areGateAndLoss 2 (some .boolean)]
def wsL_builds_r2 : List Cond := [Cond.methodLink RX5 73 yX5_isWithin, Cond.static yX5_isWithin, Cond.code yX5_isWithin cX5_isWithin 3 (some .boolean), Cond.methodLink RL 21 yX5_setSupply, Cond.instanceMethod yX5_setSupply, Cond.selects RX5 yX5_setSupply yX5_setSupply, Cond.code yX5_setSupply cX5_setSupply 5 (some .int), Cond.fieldLink RX5 125 "IrrigationDistrict$State" "supply" "[I", Cond.methodLink RX5 89 yX5_areHours, Cond.static yX5_areHours, Cond.code yX5_areHours cX5_areHours 2 (some .boolean), Cond.methodLink RX5 129 yX2_putSupply, Cond.instanceMethod yX2_putSupply, Cond.selects RX2 yX2_putSupply yX2_putSupply, Cond.code yX2_putSupply cX2_putSupply 5 none, Cond.methodLink RX2 85 Lib.Math.max.name, Cond.static Lib.Math.max.name, Cond.initialized "java/lang/Math", Cond.code Lib.Math.max.name Lib.Math.max.code 2 (some .int), Cond.fieldLink RX2 27 "IrrigationDistrict$State" "supply" "[I", Cond.methodLink RL 24 yX5_setRule, Cond.instanceMethod yX5_setRule, Cond.selects RX5 yX5_setRule yX5_setRule, Cond.code yX5_setRule cX5_setRule 3 (some .int)]
def wsL_builds_r3 : List Cond := [Cond.fieldLink RX5 132 "IrrigationDistrict$State" "rule" "I", Cond.methodLink RL 28 yX5_addDitch, Cond.instanceMethod yX5_addDitch, Cond.selects RX5 yX5_addDitch yX5_addDitch, Cond.code yX5_addDitch cX5_addDitch 4 (some .int), Cond.fieldLink RX5 57 "IrrigationDistrict$State" "ditchCount" "I", Cond.methodLink RX5 49 yX2_hasRoomForDitch, Cond.instanceMethod yX2_hasRoomForDitch, Cond.selects RX2 yX2_hasRoomForDitch yX2_hasRoomForDitch, Cond.code yX2_hasRoomForDitch cX2_hasRoomForDitch 1 (some .boolean), Cond.methodLink RX5 53 yX2_putDitch, Cond.instanceMethod yX2_putDitch, Cond.selects RX2 yX2_putDitch yX2_putDitch, Cond.code yX2_putDitch cX2_putDitch 4 none, Cond.fieldLink RX2 11 "IrrigationDistrict$State" "ditch" "[LIrrigationDistrict$Ditch;", Cond.methodLink RX2 74 yX2_hasRoomForDitch, Cond.methodLink RX2 61 yX0_begin, Cond.instanceMethod yX0_begin, Cond.selects RX0 yX0_begin yX0_begin, Cond.initialized RX0, Cond.code yX0_begin cX0_begin 4 none, Cond.fieldLink RX0 7 "IrrigationDistrict$Ditch" "parent" "I", Cond.fieldLink RX0 13 "IrrigationDistrict$Ditch" "gate" "I", Cond.fieldLink RX0 16 "IrrigationDistrict$Ditch" "loss" "I"]
def wsL_builds_r4 : List Cond := [Cond.methodLink RL 31 yX5_addUser, Cond.instanceMethod yX5_addUser, Cond.selects RX5 yX5_addUser yX5_addUser, Cond.code yX5_addUser cX5_addUser 4 (some .int), Cond.fieldLink RX5 83 "IrrigationDistrict$State" "userCount" "I", Cond.methodLink RX5 77 yX2_hasRoomForUser, Cond.instanceMethod yX2_hasRoomForUser, Cond.selects RX2 yX2_hasRoomForUser yX2_hasRoomForUser, Cond.code yX2_hasRoomForUser cX2_hasRoomForUser 1 (some .boolean), Cond.fieldLink RX2 64 "IrrigationDistrict$State" "userCount" "I", Cond.methodLink RX5 80 yX2_putUser, Cond.instanceMethod yX2_putUser, Cond.selects RX2 yX2_putUser yX2_putUser, Cond.code yX2_putUser cX2_putUser 5 none, Cond.fieldLink RX2 19 "IrrigationDistrict$State" "user" "[LIrrigationDistrict$User;", Cond.fieldLink RX2 23 "IrrigationDistrict$State" "byAge" "[I", Cond.fieldLink RX2 81 "IrrigationDistrict$User" "year" "I", Cond.methodLink RX2 78 yX2_hasRoomForUser, Cond.methodLink RX2 84 yX4_begin, Cond.instanceMethod yX4_begin, Cond.selects RX4 yX4_begin yX4_begin, Cond.initialized RX4, Cond.code yX4_begin cX4_begin 4 none, Cond.fieldLink RX4 7 "IrrigationDistrict$User" "ditch" "I"]
def wsL_builds_r5 : List Cond := [Cond.fieldLink RX4 13 "IrrigationDistrict$User" "year" "I", Cond.fieldLink RX4 16 "IrrigationDistrict$User" "right" "I", Cond.fieldLink RX4 19 "IrrigationDistrict$User" "need" "I", Cond.fieldLink RX4 22 "IrrigationDistrict$User" "from" "I", Cond.fieldLink RX4 25 "IrrigationDistrict$User" "to" "I", Cond.fieldLink RX4 28 "IrrigationDistrict$User" "capacity" "I", Cond.fieldLink RX4 31 "IrrigationDistrict$User" "content" "I", Cond.fieldLink RX4 34 "IrrigationDistrict$User" "leak" "I", Cond.fieldLink RX4 37 "IrrigationDistrict$User" "turnHours" "I", Cond.fieldLink RX4 40 "IrrigationDistrict$User" "unitsMissed" "I", Cond.fieldLink RX4 43 "IrrigationDistrict$User" "shut" "Z", Cond.methodLink RL 34 yX5_setField, Cond.instanceMethod yX5_setField, Cond.selects RX5 yX5_setField yX5_setField, Cond.code yX5_setField cX5_setField 7 (some .int), Cond.fieldLink RX5 92 "IrrigationDistrict$State" "user" "[LIrrigationDistrict$User;", Cond.fieldLink RX5 96 "IrrigationDistrict$User" "need" "I", Cond.fieldLink RX5 101 "IrrigationDistrict$User" "from" "I", Cond.fieldLink RX5 104 "IrrigationDistrict$User" "to" "I", Cond.methodLink RX5 86 yX2_hasUser, Cond.instanceMethod yX2_hasUser, Cond.selects RX2 yX2_hasUser yX2_hasUser, Cond.code yX2_hasUser cX2_hasUser 2 (some .boolean), Cond.methodLink RL 38 yX5_setPond]
def wsL_builds_r6 : List Cond := [Cond.instanceMethod yX5_setPond, Cond.selects RX5 yX5_setPond yX5_setPond, Cond.code yX5_setPond cX5_setPond 5 (some .int), Cond.fieldLink RX5 107 "IrrigationDistrict$User" "capacity" "I", Cond.fieldLink RX5 110 "IrrigationDistrict$User" "leak" "I", Cond.fieldLink RX5 113 "IrrigationDistrict$User" "content" "I", Cond.methodLink RX5 116 Lib.Math.min.name, Cond.static Lib.Math.min.name, Cond.code Lib.Math.min.name Lib.Math.min.code 2 (some .int), Cond.methodLink RL 41 yX5_ditches, Cond.instanceMethod yX5_ditches, Cond.selects RX5 yX5_ditches yX5_ditches, Cond.code yX5_ditches cX5_ditches 1 (some .int), Cond.methodLink RL 45 yX5_users, Cond.instanceMethod yX5_users, Cond.selects RX5 yX5_users yX5_users, Cond.code yX5_users cX5_users 1 (some .int)]
def wsL_builds : List Cond := .code yL_builds cL_builds 10 (some .boolean) :: ((wsL_builds_r1 ++ (wsL_builds_r2 ++ (wsL_builds_r3 ++ (wsL_builds_r4 ++ (wsL_builds_r5 ++ wsL_builds_r6))))) ++ wsX50 ++ wsX20 ++ wsX00 ++ wsX40)
def wsL_older : List Cond := .code yL_older cL_older 3 (some .boolean) :: ([])
def wsL_sound_r1 : List Cond := [Cond.methodLink RL 48 yX5_inflow, Cond.instanceMethod yX5_inflow, Cond.selects RX5 yX5_inflow yX5_inflow, Cond.initialized RX5, Cond.code yX5_inflow cX5_inflow 2 (some .int), Cond.fieldLink RX5 10 "IrrigationDistrict" "now" "LIrrigationDistrict$State;", Cond.fieldLink RX5 30 "IrrigationDistrict" "flow" "LIrrigationDistrict$Flow;", Cond.fieldLink RX5 158 "IrrigationDistrict$Flow" "into" "[I", Cond.methodLink RX5 41 yX2_hasDitch, Cond.instanceMethod yX2_hasDitch, Cond.selects RX2 yX2_hasDitch yX2_hasDitch, Cond.initialized RX2, Cond.code yX2_hasDitch cX2_hasDitch 2 (some .boolean), Cond.fieldLink RX2 49 "IrrigationDistrict$State" "ditchCount" "I", Cond.methodLink RX5 151 yX1_distribute, Cond.instanceMethod yX1_distribute, Cond.selects RX1 yX1_distribute yX1_distribute, Cond.initialized RX1, Cond.code yX1_distribute cX1_distribute 5 none, Cond.fieldLink RX1 33 "IrrigationDistrict$Flow" "supply" "I", Cond.fieldLink RX1 40 "IrrigationDistrict$State" "userCount" "I", Cond.fieldLink RX1 9 "IrrigationDistrict$Flow" "asked" "[I", Cond.fieldLink RX1 15 "IrrigationDistrict$Flow" "got" "[I", Cond.fieldLink RX1 47 "IrrigationDistrict$State" "rule" "I"]
def wsL_sound_r2 : List Cond := [Cond.fieldLink RX1 65 "IrrigationDistrict$State" "byAge" "[I", Cond.methodLink RX1 27 yX2_supplyNow, Cond.instanceMethod yX2_supplyNow, Cond.selects RX2 yX2_supplyNow yX2_supplyNow, Cond.code yX2_supplyNow cX2_supplyNow 1 (some .int), Cond.fieldLink RX2 27 "IrrigationDistrict$State" "supply" "[I", Cond.methodLink RX2 94 yX2_hourOfDay, Cond.instanceMethod yX2_hourOfDay, Cond.selects RX2 yX2_hourOfDay yX2_hourOfDay, Cond.code yX2_hourOfDay cX2_hourOfDay 1 (some .int), Cond.fieldLink RX2 71 "IrrigationDistrict$State" "hoursPassed" "I", Cond.methodLink RX2 91 yJ9_floorMod_7cf53, Cond.static yJ9_floorMod_7cf53, Cond.initialized RJ9, Cond.code yJ9_floorMod_7cf53 cJ9_floorMod_7cf53 3 (some .int), Cond.methodLink RX1 37 yX2_userInTurn, Cond.instanceMethod yX2_userInTurn, Cond.selects RX2 yX2_userInTurn yX2_userInTurn, Cond.code yX2_userInTurn cX2_userInTurn 4 (some .int), Cond.fieldLink RX2 64 "IrrigationDistrict$State" "userCount" "I", Cond.fieldLink RX2 19 "IrrigationDistrict$State" "user" "[LIrrigationDistrict$User;", Cond.fieldLink RX2 98 "IrrigationDistrict$User" "turnHours" "I", Cond.fieldLink RX2 33 "IrrigationDistrict$State" "rule" "I", Cond.methodLink RX1 43 yX2_unitsAsked]
def wsL_sound_r3 : List Cond := [Cond.instanceMethod yX2_unitsAsked, Cond.selects RX2 yX2_unitsAsked yX2_unitsAsked, Cond.code yX2_unitsAsked cX2_unitsAsked 5 (some .int), Cond.fieldLink RX2 101 "IrrigationDistrict$User" "shut" "Z", Cond.fieldLink RX2 112 "IrrigationDistrict$User" "right" "I", Cond.methodLink RX2 115 Lib.Math.min.name, Cond.static Lib.Math.min.name, Cond.initialized "java/lang/Math", Cond.code Lib.Math.min.name Lib.Math.min.code 2 (some .int), Cond.methodLink RX2 105 yX4_needAt, Cond.instanceMethod yX4_needAt, Cond.selects RX4 yX4_needAt yX4_needAt, Cond.initialized RX4, Cond.code yX4_needAt cX4_needAt 2 (some .int), Cond.fieldLink RX4 22 "IrrigationDistrict$User" "from" "I", Cond.fieldLink RX4 25 "IrrigationDistrict$User" "to" "I", Cond.fieldLink RX4 19 "IrrigationDistrict$User" "need" "I", Cond.methodLink RX2 109 yX4_room, Cond.instanceMethod yX4_room, Cond.selects RX4 yX4_room yX4_room, Cond.code yX4_room cX4_room 1 (some .int), Cond.fieldLink RX4 28 "IrrigationDistrict$User" "capacity" "I", Cond.fieldLink RX4 31 "IrrigationDistrict$User" "content" "I", Cond.methodLink RX1 50 yX1_giveGreatestShares]
def wsL_sound_r4 : List Cond := [Cond.instanceMethod yX1_giveGreatestShares, Cond.selects RX1 yX1_giveGreatestShares yX1_giveGreatestShares, Cond.code yX1_giveGreatestShares cX1_giveGreatestShares 4 none, Cond.methodLink RX1 91 yX1_giveShares, Cond.instanceMethod yX1_giveShares, Cond.selects RX1 yX1_giveShares yX1_giveShares, Cond.code yX1_giveShares cX1_giveShares 4 none, Cond.methodLink RX1 54 yX1_spread, Cond.instanceMethod yX1_spread, Cond.selects RX1 yX1_spread yX1_spread, Cond.code yX1_spread cX1_spread 3 none, Cond.fieldLink RX1 77 "IrrigationDistrict$State" "ditchCount" "I", Cond.fieldLink RX1 21 "IrrigationDistrict$Flow" "passed" "[I", Cond.fieldLink RX1 68 "IrrigationDistrict$State" "user" "[LIrrigationDistrict$User;", Cond.fieldLink RX1 72 "IrrigationDistrict$User" "ditch" "I", Cond.fieldLink RX1 18 "IrrigationDistrict$Flow" "into" "[I", Cond.fieldLink RX1 80 "IrrigationDistrict$State" "ditch" "[LIrrigationDistrict$Ditch;", Cond.fieldLink RX1 88 "IrrigationDistrict$Ditch" "parent" "I", Cond.methodLink RX1 98 yX0_inflowFor, Cond.instanceMethod yX0_inflowFor, Cond.selects RX0 yX0_inflowFor yX0_inflowFor, Cond.initialized RX0, Cond.code yX0_inflowFor cX0_inflowFor 3 (some .int), Cond.fieldLink RX0 16 "IrrigationDistrict$Ditch" "loss" "I"]
def wsL_sound_r5 : List Cond := [Cond.methodLink RX1 94 yX1_isPossible, Cond.instanceMethod yX1_isPossible, Cond.selects RX1 yX1_isPossible yX1_isPossible, Cond.code yX1_isPossible cX1_isPossible 3 (some .boolean), Cond.fieldLink RX1 83 "IrrigationDistrict$Ditch" "gate" "I", Cond.methodLink RX1 57 yX2_hasUser, Cond.instanceMethod yX2_hasUser, Cond.selects RX2 yX2_hasUser yX2_hasUser, Cond.code yX2_hasUser cX2_hasUser 2 (some .boolean), Cond.methodLink RX1 61 yX1_serve, Cond.instanceMethod yX1_serve, Cond.selects RX1 yX1_serve yX1_serve, Cond.code yX1_serve cX1_serve 4 none, Cond.methodLink RX1 106 Lib.Math.min.name, Cond.methodLink RX1 102 yX1_mostFor, Cond.instanceMethod yX1_mostFor, Cond.selects RX1 yX1_mostFor yX1_mostFor, Cond.code yX1_mostFor cX1_mostFor 6 (some .int), Cond.fieldLink RX1 24 "IrrigationDistrict$Flow" "most" "[I", Cond.methodLink RX1 111 yX0_passedOf, Cond.instanceMethod yX0_passedOf, Cond.selects RX0 yX0_passedOf yX0_passedOf, Cond.code yX0_passedOf cX0_passedOf 2 (some .int), Cond.methodLink RL 51 yX5_loses]
def wsL_sound_r6 : List Cond := [Cond.instanceMethod yX5_loses, Cond.selects RX5 yX5_loses yX5_loses, Cond.code yX5_loses cX5_loses 2 (some .int), Cond.methodLink RX5 161 yX1_lostIn, Cond.instanceMethod yX1_lostIn, Cond.selects RX1 yX1_lostIn yX1_lostIn, Cond.code yX1_lostIn cX1_lostIn 2 (some .int), Cond.methodLink RL 54 yX5_gets, Cond.instanceMethod yX5_gets, Cond.selects RX5 yX5_gets yX5_gets, Cond.code yX5_gets cX5_gets 2 (some .int), Cond.fieldLink RX5 155 "IrrigationDistrict$Flow" "got" "[I", Cond.methodLink RX5 86 yX2_hasUser, Cond.methodLink RL 57 yX5_limit, Cond.instanceMethod yX5_limit, Cond.selects RX5 yX5_limit yX5_limit, Cond.code yX5_limit cX5_limit 2 (some .int), Cond.methodLink RX5 165 yX1_isContent, Cond.instanceMethod yX1_isContent, Cond.selects RX1 yX1_isContent yX1_isContent, Cond.code yX1_isContent cX1_isContent 2 (some .boolean), Cond.methodLink RX5 168 yX1_ditchAgainstOneMore, Cond.instanceMethod yX1_ditchAgainstOneMore, Cond.selects RX1 yX1_ditchAgainstOneMore yX1_ditchAgainstOneMore]
def wsL_sound_r7 : List Cond := [Cond.code yX1_ditchAgainstOneMore cX1_ditchAgainstOneMore 5 (some .int), Cond.methodLink RL 60 yX5_asks, Cond.instanceMethod yX5_asks, Cond.selects RX5 yX5_asks yX5_asks, Cond.code yX5_asks cX5_asks 2 (some .int), Cond.methodLink RX5 144 yX2_userInTurn, Cond.methodLink RX5 148 yX2_unitsAsked, Cond.methodLink RL 63 yX5_userByAge, Cond.instanceMethod yX5_userByAge, Cond.selects RX5 yX5_userByAge yX5_userByAge, Cond.code yX5_userByAge cX5_userByAge 2 (some .int), Cond.fieldLink RX5 138 "IrrigationDistrict$State" "byAge" "[I", Cond.methodLink RL 66 yL_older, Cond.static yL_older, Cond.initialized RL, Cond.code yL_older cL_older 3 (some .boolean), Cond.methodLink RL 70 yX5_usefulGate, Cond.instanceMethod yX5_usefulGate, Cond.selects RX5 yX5_usefulGate yX5_usefulGate, Cond.code yX5_usefulGate cX5_usefulGate 4 (some .int), Cond.fieldLink RX5 16 "IrrigationDistrict" "trial" "LIrrigationDistrict$State;", Cond.methodLink RX5 172 yX2_copyFrom, Cond.instanceMethod yX2_copyFrom, Cond.selects RX2 yX2_copyFrom yX2_copyFrom]
def wsL_sound_r8 : List Cond := [Cond.code yX2_copyFrom cX2_copyFrom 4 none, Cond.fieldLink RX2 11 "IrrigationDistrict$State" "ditch" "[LIrrigationDistrict$Ditch;", Cond.fieldLink RX2 52 "IrrigationDistrict$Ditch" "parent" "I", Cond.fieldLink RX2 55 "IrrigationDistrict$Ditch" "gate" "I", Cond.fieldLink RX2 58 "IrrigationDistrict$Ditch" "loss" "I", Cond.fieldLink RX2 23 "IrrigationDistrict$State" "byAge" "[I", Cond.fieldLink RX2 30 "IrrigationDistrict$State" "sums" "[I", Cond.fieldLink RX2 37 "IrrigationDistrict$State" "futilePercent" "I", Cond.methodLink RX2 61 yX0_begin, Cond.instanceMethod yX0_begin, Cond.selects RX0 yX0_begin yX0_begin, Cond.code yX0_begin cX0_begin 4 none, Cond.fieldLink RX0 7 "IrrigationDistrict$Ditch" "parent" "I", Cond.fieldLink RX0 13 "IrrigationDistrict$Ditch" "gate" "I", Cond.methodLink RX2 67 yX4_copyFrom, Cond.instanceMethod yX4_copyFrom, Cond.selects RX4 yX4_copyFrom yX4_copyFrom, Cond.code yX4_copyFrom cX4_copyFrom 2 none, Cond.fieldLink RX4 7 "IrrigationDistrict$User" "ditch" "I", Cond.fieldLink RX4 13 "IrrigationDistrict$User" "year" "I", Cond.fieldLink RX4 16 "IrrigationDistrict$User" "right" "I", Cond.fieldLink RX4 34 "IrrigationDistrict$User" "leak" "I", Cond.fieldLink RX4 37 "IrrigationDistrict$User" "turnHours" "I", Cond.fieldLink RX4 40 "IrrigationDistrict$User" "unitsMissed" "I"]
def wsL_sound_r9 : List Cond := [Cond.fieldLink RX4 43 "IrrigationDistrict$User" "shut" "Z", Cond.methodLink RX4 47 yX4_begin, Cond.instanceMethod yX4_begin, Cond.selects RX4 yX4_begin yX4_begin, Cond.code yX4_begin cX4_begin 4 none, Cond.methodLink RX5 178 yX5_unitsGotInTrial, Cond.instanceMethod yX5_unitsGotInTrial, Cond.selects RX5 yX5_unitsGotInTrial yX5_unitsGotInTrial, Cond.code yX5_unitsGotInTrial cX5_unitsGotInTrial 3 (some .int), Cond.fieldLink RX5 61 "IrrigationDistrict$State" "ditch" "[LIrrigationDistrict$Ditch;", Cond.fieldLink RX5 65 "IrrigationDistrict$Ditch" "gate" "I", Cond.methodLink RX5 237 yX1_unitsGot, Cond.instanceMethod yX1_unitsGot, Cond.selects RX1 yX1_unitsGot yX1_unitsGot, Cond.code yX1_unitsGot cX1_unitsGot 4 (some .int)]
def wsL_sound : List Cond := .code yL_sound cL_sound 10 (some .boolean) :: ((wsL_sound_r1 ++ (wsL_sound_r2 ++ (wsL_sound_r3 ++ (wsL_sound_r4 ++ (wsL_sound_r5 ++ (wsL_sound_r6 ++ (wsL_sound_r7 ++ (wsL_sound_r8 ++ wsL_sound_r9)))))))) ++ wsX50 ++ wsX10 ++ wsX20 ++ wsX40 ++ wsX00)
def wsL_eldest_r1 : List Cond := [Cond.methodLink RL 63 yX5_userByAge, Cond.instanceMethod yX5_userByAge, Cond.selects RX5 yX5_userByAge yX5_userByAge, Cond.initialized RX5, Cond.code yX5_userByAge cX5_userByAge 2 (some .int), Cond.fieldLink RX5 10 "IrrigationDistrict" "now" "LIrrigationDistrict$State;", Cond.fieldLink RX5 138 "IrrigationDistrict$State" "byAge" "[I", Cond.methodLink RX5 86 yX2_hasUser, Cond.instanceMethod yX2_hasUser, Cond.selects RX2 yX2_hasUser yX2_hasUser, Cond.initialized RX2, Cond.code yX2_hasUser cX2_hasUser 2 (some .boolean), Cond.fieldLink RX2 64 "IrrigationDistrict$State" "userCount" "I", Cond.methodLink RL 24 yX5_setRule, Cond.instanceMethod yX5_setRule, Cond.selects RX5 yX5_setRule yX5_setRule, Cond.code yX5_setRule cX5_setRule 3 (some .int), Cond.fieldLink RX5 132 "IrrigationDistrict$State" "rule" "I", Cond.methodLink RX5 73 yX5_isWithin, Cond.static yX5_isWithin, Cond.code yX5_isWithin cX5_isWithin 3 (some .boolean), Cond.methodLink RL 54 yX5_gets, Cond.instanceMethod yX5_gets, Cond.selects RX5 yX5_gets yX5_gets]
def wsL_eldest_r2 : List Cond := [Cond.code yX5_gets cX5_gets 2 (some .int), Cond.fieldLink RX5 30 "IrrigationDistrict" "flow" "LIrrigationDistrict$Flow;", Cond.fieldLink RX5 155 "IrrigationDistrict$Flow" "got" "[I", Cond.methodLink RX5 151 yX1_distribute, Cond.instanceMethod yX1_distribute, Cond.selects RX1 yX1_distribute yX1_distribute, Cond.initialized RX1, Cond.code yX1_distribute cX1_distribute 5 none, Cond.fieldLink RX1 33 "IrrigationDistrict$Flow" "supply" "I", Cond.fieldLink RX1 40 "IrrigationDistrict$State" "userCount" "I", Cond.fieldLink RX1 9 "IrrigationDistrict$Flow" "asked" "[I", Cond.fieldLink RX1 15 "IrrigationDistrict$Flow" "got" "[I", Cond.fieldLink RX1 47 "IrrigationDistrict$State" "rule" "I", Cond.fieldLink RX1 65 "IrrigationDistrict$State" "byAge" "[I", Cond.methodLink RX1 27 yX2_supplyNow, Cond.instanceMethod yX2_supplyNow, Cond.selects RX2 yX2_supplyNow yX2_supplyNow, Cond.code yX2_supplyNow cX2_supplyNow 1 (some .int), Cond.fieldLink RX2 27 "IrrigationDistrict$State" "supply" "[I", Cond.methodLink RX2 94 yX2_hourOfDay, Cond.instanceMethod yX2_hourOfDay, Cond.selects RX2 yX2_hourOfDay yX2_hourOfDay, Cond.code yX2_hourOfDay cX2_hourOfDay 1 (some .int), Cond.fieldLink RX2 71 "IrrigationDistrict$State" "hoursPassed" "I"]
def wsL_eldest_r3 : List Cond := [Cond.methodLink RX2 91 yJ9_floorMod_7cf53, Cond.static yJ9_floorMod_7cf53, Cond.initialized RJ9, Cond.code yJ9_floorMod_7cf53 cJ9_floorMod_7cf53 3 (some .int), Cond.methodLink RX1 37 yX2_userInTurn, Cond.instanceMethod yX2_userInTurn, Cond.selects RX2 yX2_userInTurn yX2_userInTurn, Cond.code yX2_userInTurn cX2_userInTurn 4 (some .int), Cond.fieldLink RX2 19 "IrrigationDistrict$State" "user" "[LIrrigationDistrict$User;", Cond.fieldLink RX2 98 "IrrigationDistrict$User" "turnHours" "I", Cond.fieldLink RX2 33 "IrrigationDistrict$State" "rule" "I", Cond.methodLink RX1 43 yX2_unitsAsked, Cond.instanceMethod yX2_unitsAsked, Cond.selects RX2 yX2_unitsAsked yX2_unitsAsked, Cond.code yX2_unitsAsked cX2_unitsAsked 5 (some .int), Cond.fieldLink RX2 101 "IrrigationDistrict$User" "shut" "Z", Cond.fieldLink RX2 112 "IrrigationDistrict$User" "right" "I", Cond.methodLink RX2 115 Lib.Math.min.name, Cond.static Lib.Math.min.name, Cond.initialized "java/lang/Math", Cond.code Lib.Math.min.name Lib.Math.min.code 2 (some .int), Cond.methodLink RX2 105 yX4_needAt, Cond.instanceMethod yX4_needAt, Cond.selects RX4 yX4_needAt yX4_needAt]
def wsL_eldest_r4 : List Cond := [Cond.initialized RX4, Cond.code yX4_needAt cX4_needAt 2 (some .int), Cond.fieldLink RX4 22 "IrrigationDistrict$User" "from" "I", Cond.fieldLink RX4 25 "IrrigationDistrict$User" "to" "I", Cond.fieldLink RX4 19 "IrrigationDistrict$User" "need" "I", Cond.methodLink RX2 109 yX4_room, Cond.instanceMethod yX4_room, Cond.selects RX4 yX4_room yX4_room, Cond.code yX4_room cX4_room 1 (some .int), Cond.fieldLink RX4 28 "IrrigationDistrict$User" "capacity" "I", Cond.fieldLink RX4 31 "IrrigationDistrict$User" "content" "I", Cond.methodLink RX1 50 yX1_giveGreatestShares, Cond.instanceMethod yX1_giveGreatestShares, Cond.selects RX1 yX1_giveGreatestShares yX1_giveGreatestShares, Cond.code yX1_giveGreatestShares cX1_giveGreatestShares 4 none, Cond.methodLink RX1 91 yX1_giveShares, Cond.instanceMethod yX1_giveShares, Cond.selects RX1 yX1_giveShares yX1_giveShares, Cond.code yX1_giveShares cX1_giveShares 4 none, Cond.methodLink RX1 54 yX1_spread, Cond.instanceMethod yX1_spread, Cond.selects RX1 yX1_spread yX1_spread, Cond.code yX1_spread cX1_spread 3 none, Cond.fieldLink RX1 77 "IrrigationDistrict$State" "ditchCount" "I"]
def wsL_eldest_r5 : List Cond := [Cond.fieldLink RX1 21 "IrrigationDistrict$Flow" "passed" "[I", Cond.fieldLink RX1 68 "IrrigationDistrict$State" "user" "[LIrrigationDistrict$User;", Cond.fieldLink RX1 72 "IrrigationDistrict$User" "ditch" "I", Cond.fieldLink RX1 18 "IrrigationDistrict$Flow" "into" "[I", Cond.fieldLink RX1 80 "IrrigationDistrict$State" "ditch" "[LIrrigationDistrict$Ditch;", Cond.fieldLink RX1 88 "IrrigationDistrict$Ditch" "parent" "I", Cond.methodLink RX1 98 yX0_inflowFor, Cond.instanceMethod yX0_inflowFor, Cond.selects RX0 yX0_inflowFor yX0_inflowFor, Cond.initialized RX0, Cond.code yX0_inflowFor cX0_inflowFor 3 (some .int), Cond.fieldLink RX0 16 "IrrigationDistrict$Ditch" "loss" "I", Cond.methodLink RX1 94 yX1_isPossible, Cond.instanceMethod yX1_isPossible, Cond.selects RX1 yX1_isPossible yX1_isPossible, Cond.code yX1_isPossible cX1_isPossible 3 (some .boolean), Cond.fieldLink RX1 83 "IrrigationDistrict$Ditch" "gate" "I", Cond.methodLink RX1 57 yX2_hasUser, Cond.methodLink RX1 61 yX1_serve, Cond.instanceMethod yX1_serve, Cond.selects RX1 yX1_serve yX1_serve, Cond.code yX1_serve cX1_serve 4 none, Cond.methodLink RX1 106 Lib.Math.min.name, Cond.methodLink RX1 102 yX1_mostFor]
def wsL_eldest_r6 : List Cond := [Cond.instanceMethod yX1_mostFor, Cond.selects RX1 yX1_mostFor yX1_mostFor, Cond.code yX1_mostFor cX1_mostFor 6 (some .int), Cond.fieldLink RX1 24 "IrrigationDistrict$Flow" "most" "[I", Cond.methodLink RX1 111 yX0_passedOf, Cond.instanceMethod yX0_passedOf, Cond.selects RX0 yX0_passedOf yX0_passedOf, Cond.code yX0_passedOf cX0_passedOf 2 (some .int), Cond.methodLink RL 73 yX5_save, Cond.instanceMethod yX5_save, Cond.selects RX5 yX5_save yX5_save, Cond.code yX5_save cX5_save 2 (some .int), Cond.fieldLink RX5 19 "IrrigationDistrict" "slots" "[LIrrigationDistrict$State;", Cond.fieldLink RX5 23 "IrrigationDistrict" "saved" "[Z", Cond.fieldLink RX5 141 "IrrigationDistrict$State" "hoursPassed" "I", Cond.methodLink RX5 172 yX2_copyFrom, Cond.instanceMethod yX2_copyFrom, Cond.selects RX2 yX2_copyFrom yX2_copyFrom, Cond.code yX2_copyFrom cX2_copyFrom 4 none, Cond.fieldLink RX2 49 "IrrigationDistrict$State" "ditchCount" "I", Cond.fieldLink RX2 11 "IrrigationDistrict$State" "ditch" "[LIrrigationDistrict$Ditch;", Cond.fieldLink RX2 52 "IrrigationDistrict$Ditch" "parent" "I", Cond.fieldLink RX2 55 "IrrigationDistrict$Ditch" "gate" "I", Cond.fieldLink RX2 58 "IrrigationDistrict$Ditch" "loss" "I"]
def wsL_eldest_r7 : List Cond := [Cond.fieldLink RX2 23 "IrrigationDistrict$State" "byAge" "[I", Cond.fieldLink RX2 30 "IrrigationDistrict$State" "sums" "[I", Cond.fieldLink RX2 37 "IrrigationDistrict$State" "futilePercent" "I", Cond.methodLink RX2 61 yX0_begin, Cond.instanceMethod yX0_begin, Cond.selects RX0 yX0_begin yX0_begin, Cond.code yX0_begin cX0_begin 4 none, Cond.fieldLink RX0 7 "IrrigationDistrict$Ditch" "parent" "I", Cond.fieldLink RX0 13 "IrrigationDistrict$Ditch" "gate" "I", Cond.methodLink RX2 67 yX4_copyFrom, Cond.instanceMethod yX4_copyFrom, Cond.selects RX4 yX4_copyFrom yX4_copyFrom, Cond.code yX4_copyFrom cX4_copyFrom 2 none, Cond.fieldLink RX4 7 "IrrigationDistrict$User" "ditch" "I", Cond.fieldLink RX4 13 "IrrigationDistrict$User" "year" "I", Cond.fieldLink RX4 16 "IrrigationDistrict$User" "right" "I", Cond.fieldLink RX4 34 "IrrigationDistrict$User" "leak" "I", Cond.fieldLink RX4 37 "IrrigationDistrict$User" "turnHours" "I", Cond.fieldLink RX4 40 "IrrigationDistrict$User" "unitsMissed" "I", Cond.fieldLink RX4 43 "IrrigationDistrict$User" "shut" "Z", Cond.methodLink RX4 47 yX4_begin, Cond.instanceMethod yX4_begin, Cond.selects RX4 yX4_begin yX4_begin, Cond.code yX4_begin cX4_begin 4 none]
def wsL_eldest_r8 : List Cond := [Cond.methodLink RL 76 yX5_time, Cond.instanceMethod yX5_time, Cond.selects RX5 yX5_time yX5_time, Cond.code yX5_time cX5_time 1 (some .int), Cond.methodLink RL 79 yX5_gain, Cond.instanceMethod yX5_gain, Cond.selects RX5 yX5_gain yX5_gain, Cond.code yX5_gain cX5_gain 3 (some .int), Cond.methodLink RX5 194 yX2_isYounger, Cond.instanceMethod yX2_isYounger, Cond.selects RX2 yX2_isYounger yX2_isYounger, Cond.code yX2_isYounger cX2_isYounger 5 (some .boolean), Cond.fieldLink RX2 81 "IrrigationDistrict$User" "year" "I", Cond.methodLink RX5 197 yX5_gainOf, Cond.instanceMethod yX5_gainOf, Cond.selects RX5 yX5_gainOf yX5_gainOf, Cond.code yX5_gainOf cX5_gainOf 4 (some .int), Cond.fieldLink RX5 16 "IrrigationDistrict" "trial" "LIrrigationDistrict$State;", Cond.fieldLink RX5 92 "IrrigationDistrict$State" "user" "[LIrrigationDistrict$User;", Cond.fieldLink RX5 203 "IrrigationDistrict$User" "shut" "Z", Cond.methodLink RL 83 yX5_complaint, Cond.instanceMethod yX5_complaint, Cond.selects RX5 yX5_complaint yX5_complaint, Cond.code yX5_complaint cX5_complaint 3 (some .int)]
def wsL_eldest_r9 : List Cond := [Cond.methodLink RX5 200 yX5_judge, Cond.instanceMethod yX5_judge, Cond.selects RX5 yX5_judge yX5_judge, Cond.code yX5_judge cX5_judge 5 (some .int), Cond.fieldLink RX5 135 "IrrigationDistrict$State" "futilePercent" "I", Cond.methodLink RX5 165 yX1_isContent, Cond.instanceMethod yX1_isContent, Cond.selects RX1 yX1_isContent yX1_isContent, Cond.code yX1_isContent cX1_isContent 2 (some .boolean)]
def wsL_eldest : List Cond := .code yL_eldest cL_eldest 7 (some .boolean) :: ((wsL_eldest_r1 ++ (wsL_eldest_r2 ++ (wsL_eldest_r3 ++ (wsL_eldest_r4 ++ (wsL_eldest_r5 ++ (wsL_eldest_r6 ++ (wsL_eldest_r7 ++ (wsL_eldest_r8 ++ wsL_eldest_r9)))))))) ++ wsX50 ++ wsX20 ++ wsX10 ++ wsX40 ++ wsX00)
def wsL_refuses_r1 : List Cond := [Cond.methodLink RL 86 yX5_checksum, Cond.instanceMethod yX5_checksum, Cond.selects RX5 yX5_checksum yX5_checksum, Cond.initialized RX5, Cond.code yX5_checksum cX5_checksum 4 (some .long), Cond.fieldLink RX5 30 "IrrigationDistrict" "flow" "LIrrigationDistrict$Flow;", Cond.fieldLink RX5 10 "IrrigationDistrict" "now" "LIrrigationDistrict$State;", Cond.constantLong RX5 226 (53), Cond.constantLong RX5 228 (31), Cond.fieldLink RX5 141 "IrrigationDistrict$State" "hoursPassed" "I", Cond.fieldLink RX5 57 "IrrigationDistrict$State" "ditchCount" "I", Cond.fieldLink RX5 83 "IrrigationDistrict$State" "userCount" "I", Cond.fieldLink RX5 158 "IrrigationDistrict$Flow" "into" "[I", Cond.fieldLink RX5 185 "IrrigationDistrict$State" "sums" "[I", Cond.methodLink RX5 151 yX1_distribute, Cond.instanceMethod yX1_distribute, Cond.selects RX1 yX1_distribute yX1_distribute, Cond.initialized RX1, Cond.code yX1_distribute cX1_distribute 5 none, Cond.fieldLink RX1 33 "IrrigationDistrict$Flow" "supply" "I", Cond.fieldLink RX1 40 "IrrigationDistrict$State" "userCount" "I", Cond.fieldLink RX1 9 "IrrigationDistrict$Flow" "asked" "[I", Cond.fieldLink RX1 15 "IrrigationDistrict$Flow" "got" "[I", Cond.fieldLink RX1 47 "IrrigationDistrict$State" "rule" "I"]
def wsL_refuses_r2 : List Cond := [Cond.fieldLink RX1 65 "IrrigationDistrict$State" "byAge" "[I", Cond.methodLink RX1 27 yX2_supplyNow, Cond.instanceMethod yX2_supplyNow, Cond.selects RX2 yX2_supplyNow yX2_supplyNow, Cond.initialized RX2, Cond.code yX2_supplyNow cX2_supplyNow 1 (some .int), Cond.fieldLink RX2 27 "IrrigationDistrict$State" "supply" "[I", Cond.methodLink RX2 94 yX2_hourOfDay, Cond.instanceMethod yX2_hourOfDay, Cond.selects RX2 yX2_hourOfDay yX2_hourOfDay, Cond.code yX2_hourOfDay cX2_hourOfDay 1 (some .int), Cond.fieldLink RX2 71 "IrrigationDistrict$State" "hoursPassed" "I", Cond.methodLink RX2 91 yJ9_floorMod_7cf53, Cond.static yJ9_floorMod_7cf53, Cond.initialized RJ9, Cond.code yJ9_floorMod_7cf53 cJ9_floorMod_7cf53 3 (some .int), Cond.methodLink RX1 37 yX2_userInTurn, Cond.instanceMethod yX2_userInTurn, Cond.selects RX2 yX2_userInTurn yX2_userInTurn, Cond.code yX2_userInTurn cX2_userInTurn 4 (some .int), Cond.fieldLink RX2 64 "IrrigationDistrict$State" "userCount" "I", Cond.fieldLink RX2 19 "IrrigationDistrict$State" "user" "[LIrrigationDistrict$User;", Cond.fieldLink RX2 98 "IrrigationDistrict$User" "turnHours" "I", Cond.fieldLink RX2 33 "IrrigationDistrict$State" "rule" "I"]
def wsL_refuses_r3 : List Cond := [Cond.methodLink RX1 43 yX2_unitsAsked, Cond.instanceMethod yX2_unitsAsked, Cond.selects RX2 yX2_unitsAsked yX2_unitsAsked, Cond.code yX2_unitsAsked cX2_unitsAsked 5 (some .int), Cond.fieldLink RX2 101 "IrrigationDistrict$User" "shut" "Z", Cond.fieldLink RX2 112 "IrrigationDistrict$User" "right" "I", Cond.methodLink RX2 115 Lib.Math.min.name, Cond.static Lib.Math.min.name, Cond.initialized "java/lang/Math", Cond.code Lib.Math.min.name Lib.Math.min.code 2 (some .int), Cond.methodLink RX2 105 yX4_needAt, Cond.instanceMethod yX4_needAt, Cond.selects RX4 yX4_needAt yX4_needAt, Cond.initialized RX4, Cond.code yX4_needAt cX4_needAt 2 (some .int), Cond.fieldLink RX4 22 "IrrigationDistrict$User" "from" "I", Cond.fieldLink RX4 25 "IrrigationDistrict$User" "to" "I", Cond.fieldLink RX4 19 "IrrigationDistrict$User" "need" "I", Cond.methodLink RX2 109 yX4_room, Cond.instanceMethod yX4_room, Cond.selects RX4 yX4_room yX4_room, Cond.code yX4_room cX4_room 1 (some .int), Cond.fieldLink RX4 28 "IrrigationDistrict$User" "capacity" "I", Cond.fieldLink RX4 31 "IrrigationDistrict$User" "content" "I"]
def wsL_refuses_r4 : List Cond := [Cond.methodLink RX1 50 yX1_giveGreatestShares, Cond.instanceMethod yX1_giveGreatestShares, Cond.selects RX1 yX1_giveGreatestShares yX1_giveGreatestShares, Cond.code yX1_giveGreatestShares cX1_giveGreatestShares 4 none, Cond.methodLink RX1 91 yX1_giveShares, Cond.instanceMethod yX1_giveShares, Cond.selects RX1 yX1_giveShares yX1_giveShares, Cond.code yX1_giveShares cX1_giveShares 4 none, Cond.methodLink RX1 54 yX1_spread, Cond.instanceMethod yX1_spread, Cond.selects RX1 yX1_spread yX1_spread, Cond.code yX1_spread cX1_spread 3 none, Cond.fieldLink RX1 77 "IrrigationDistrict$State" "ditchCount" "I", Cond.fieldLink RX1 21 "IrrigationDistrict$Flow" "passed" "[I", Cond.fieldLink RX1 68 "IrrigationDistrict$State" "user" "[LIrrigationDistrict$User;", Cond.fieldLink RX1 72 "IrrigationDistrict$User" "ditch" "I", Cond.fieldLink RX1 18 "IrrigationDistrict$Flow" "into" "[I", Cond.fieldLink RX1 80 "IrrigationDistrict$State" "ditch" "[LIrrigationDistrict$Ditch;", Cond.fieldLink RX1 88 "IrrigationDistrict$Ditch" "parent" "I", Cond.methodLink RX1 98 yX0_inflowFor, Cond.instanceMethod yX0_inflowFor, Cond.selects RX0 yX0_inflowFor yX0_inflowFor, Cond.initialized RX0, Cond.code yX0_inflowFor cX0_inflowFor 3 (some .int)]
def wsL_refuses_r5 : List Cond := [Cond.fieldLink RX0 16 "IrrigationDistrict$Ditch" "loss" "I", Cond.methodLink RX1 94 yX1_isPossible, Cond.instanceMethod yX1_isPossible, Cond.selects RX1 yX1_isPossible yX1_isPossible, Cond.code yX1_isPossible cX1_isPossible 3 (some .boolean), Cond.fieldLink RX1 83 "IrrigationDistrict$Ditch" "gate" "I", Cond.methodLink RX1 57 yX2_hasUser, Cond.instanceMethod yX2_hasUser, Cond.selects RX2 yX2_hasUser yX2_hasUser, Cond.code yX2_hasUser cX2_hasUser 2 (some .boolean), Cond.methodLink RX1 61 yX1_serve, Cond.instanceMethod yX1_serve, Cond.selects RX1 yX1_serve yX1_serve, Cond.code yX1_serve cX1_serve 4 none, Cond.methodLink RX1 106 Lib.Math.min.name, Cond.methodLink RX1 102 yX1_mostFor, Cond.instanceMethod yX1_mostFor, Cond.selects RX1 yX1_mostFor yX1_mostFor, Cond.code yX1_mostFor cX1_mostFor 6 (some .int), Cond.fieldLink RX1 24 "IrrigationDistrict$Flow" "most" "[I", Cond.methodLink RX1 111 yX0_passedOf, Cond.instanceMethod yX0_passedOf, Cond.selects RX0 yX0_passedOf yX0_passedOf, Cond.code yX0_passedOf cX0_passedOf 2 (some .int)]
def wsL_refuses_r6 : List Cond := [Cond.methodLink RX5 161 yX1_lostIn, Cond.instanceMethod yX1_lostIn, Cond.selects RX1 yX1_lostIn yX1_lostIn, Cond.code yX1_lostIn cX1_lostIn 2 (some .int), Cond.methodLink RX5 230 yX5_withUser, Cond.instanceMethod yX5_withUser, Cond.selects RX5 yX5_withUser yX5_withUser, Cond.code yX5_withUser cX5_withUser 7 (some .long), Cond.fieldLink RX5 92 "IrrigationDistrict$State" "user" "[LIrrigationDistrict$User;", Cond.fieldLink RX5 234 "IrrigationDistrict$Flow" "asked" "[I", Cond.fieldLink RX5 155 "IrrigationDistrict$Flow" "got" "[I", Cond.fieldLink RX5 113 "IrrigationDistrict$User" "content" "I", Cond.fieldLink RX5 188 "IrrigationDistrict$User" "unitsMissed" "I", Cond.fieldLink RX5 203 "IrrigationDistrict$User" "shut" "Z", Cond.methodLink RX5 144 yX2_userInTurn, Cond.methodLink RL 28 yX5_addDitch, Cond.instanceMethod yX5_addDitch, Cond.selects RX5 yX5_addDitch yX5_addDitch, Cond.code yX5_addDitch cX5_addDitch 4 (some .int), Cond.methodLink RX5 41 yX2_hasDitch, Cond.instanceMethod yX2_hasDitch, Cond.selects RX2 yX2_hasDitch yX2_hasDitch, Cond.code yX2_hasDitch cX2_hasDitch 2 (some .boolean), Cond.fieldLink RX2 49 "IrrigationDistrict$State" "ditchCount" "I"]
def wsL_refuses_r7 : List Cond := [Cond.methodLink RX5 45 yX5_areGateAndLoss, Cond.static yX5_areGateAndLoss, Cond.code yX5_areGateAndLoss cX5_areGateAndLoss 2 (some .boolean), Cond.methodLink RX5 73 yX5_isWithin, Cond.static yX5_isWithin, Cond.code yX5_isWithin cX5_isWithin 3 (some .boolean), Cond.methodLink RX5 49 yX2_hasRoomForDitch, Cond.instanceMethod yX2_hasRoomForDitch, Cond.selects RX2 yX2_hasRoomForDitch yX2_hasRoomForDitch, Cond.code yX2_hasRoomForDitch cX2_hasRoomForDitch 1 (some .boolean), Cond.methodLink RX5 53 yX2_putDitch, Cond.instanceMethod yX2_putDitch, Cond.selects RX2 yX2_putDitch yX2_putDitch, Cond.code yX2_putDitch cX2_putDitch 4 none, Cond.fieldLink RX2 11 "IrrigationDistrict$State" "ditch" "[LIrrigationDistrict$Ditch;", Cond.methodLink RX2 74 yX2_hasRoomForDitch, Cond.methodLink RX2 61 yX0_begin, Cond.instanceMethod yX0_begin, Cond.selects RX0 yX0_begin yX0_begin, Cond.code yX0_begin cX0_begin 4 none, Cond.fieldLink RX0 7 "IrrigationDistrict$Ditch" "parent" "I", Cond.fieldLink RX0 13 "IrrigationDistrict$Ditch" "gate" "I", Cond.methodLink RL 15 yX5_setDitch, Cond.instanceMethod yX5_setDitch]
def wsL_refuses_r8 : List Cond := [Cond.selects RX5 yX5_setDitch yX5_setDitch, Cond.code yX5_setDitch cX5_setDitch 6 (some .int), Cond.fieldLink RX5 61 "IrrigationDistrict$State" "ditch" "[LIrrigationDistrict$Ditch;", Cond.fieldLink RX5 65 "IrrigationDistrict$Ditch" "gate" "I", Cond.fieldLink RX5 70 "IrrigationDistrict$Ditch" "loss" "I", Cond.methodLink RL 31 yX5_addUser, Cond.instanceMethod yX5_addUser, Cond.selects RX5 yX5_addUser yX5_addUser, Cond.code yX5_addUser cX5_addUser 4 (some .int), Cond.methodLink RX5 77 yX2_hasRoomForUser, Cond.instanceMethod yX2_hasRoomForUser, Cond.selects RX2 yX2_hasRoomForUser yX2_hasRoomForUser, Cond.code yX2_hasRoomForUser cX2_hasRoomForUser 1 (some .boolean), Cond.methodLink RX5 80 yX2_putUser, Cond.instanceMethod yX2_putUser, Cond.selects RX2 yX2_putUser yX2_putUser, Cond.code yX2_putUser cX2_putUser 5 none, Cond.fieldLink RX2 23 "IrrigationDistrict$State" "byAge" "[I", Cond.fieldLink RX2 81 "IrrigationDistrict$User" "year" "I", Cond.methodLink RX2 78 yX2_hasRoomForUser, Cond.methodLink RX2 84 yX4_begin, Cond.instanceMethod yX4_begin, Cond.selects RX4 yX4_begin yX4_begin, Cond.code yX4_begin cX4_begin 4 none]
def wsL_refuses_r9 : List Cond := [Cond.fieldLink RX4 7 "IrrigationDistrict$User" "ditch" "I", Cond.fieldLink RX4 13 "IrrigationDistrict$User" "year" "I", Cond.fieldLink RX4 16 "IrrigationDistrict$User" "right" "I", Cond.fieldLink RX4 34 "IrrigationDistrict$User" "leak" "I", Cond.fieldLink RX4 37 "IrrigationDistrict$User" "turnHours" "I", Cond.fieldLink RX4 40 "IrrigationDistrict$User" "unitsMissed" "I", Cond.fieldLink RX4 43 "IrrigationDistrict$User" "shut" "Z", Cond.methodLink RL 34 yX5_setField, Cond.instanceMethod yX5_setField, Cond.selects RX5 yX5_setField yX5_setField, Cond.code yX5_setField cX5_setField 7 (some .int), Cond.fieldLink RX5 96 "IrrigationDistrict$User" "need" "I", Cond.fieldLink RX5 101 "IrrigationDistrict$User" "from" "I", Cond.fieldLink RX5 104 "IrrigationDistrict$User" "to" "I", Cond.methodLink RX5 86 yX2_hasUser, Cond.methodLink RX5 89 yX5_areHours, Cond.static yX5_areHours, Cond.code yX5_areHours cX5_areHours 2 (some .boolean), Cond.methodLink RL 38 yX5_setPond, Cond.instanceMethod yX5_setPond, Cond.selects RX5 yX5_setPond yX5_setPond, Cond.code yX5_setPond cX5_setPond 5 (some .int), Cond.fieldLink RX5 107 "IrrigationDistrict$User" "capacity" "I", Cond.fieldLink RX5 110 "IrrigationDistrict$User" "leak" "I"]
def wsL_refuses_r10 : List Cond := [Cond.methodLink RX5 116 Lib.Math.min.name, Cond.methodLink RL 90 yX5_setTurn, Cond.instanceMethod yX5_setTurn, Cond.selects RX5 yX5_setTurn yX5_setTurn, Cond.code yX5_setTurn cX5_setTurn 5 (some .int), Cond.fieldLink RX5 122 "IrrigationDistrict$User" "turnHours" "I", Cond.methodLink RL 21 yX5_setSupply, Cond.instanceMethod yX5_setSupply, Cond.selects RX5 yX5_setSupply yX5_setSupply, Cond.code yX5_setSupply cX5_setSupply 5 (some .int), Cond.fieldLink RX5 125 "IrrigationDistrict$State" "supply" "[I", Cond.methodLink RX5 129 yX2_putSupply, Cond.instanceMethod yX2_putSupply, Cond.selects RX2 yX2_putSupply yX2_putSupply, Cond.code yX2_putSupply cX2_putSupply 5 none, Cond.methodLink RX2 85 Lib.Math.max.name, Cond.static Lib.Math.max.name, Cond.code Lib.Math.max.name Lib.Math.max.code 2 (some .int), Cond.methodLink RL 24 yX5_setRule, Cond.instanceMethod yX5_setRule, Cond.selects RX5 yX5_setRule yX5_setRule, Cond.code yX5_setRule cX5_setRule 3 (some .int), Cond.fieldLink RX5 132 "IrrigationDistrict$State" "rule" "I", Cond.methodLink RL 93 yX5_setFutile]
def wsL_refuses_r11 : List Cond := [Cond.instanceMethod yX5_setFutile, Cond.selects RX5 yX5_setFutile yX5_setFutile, Cond.code yX5_setFutile cX5_setFutile 3 (some .int), Cond.fieldLink RX5 135 "IrrigationDistrict$State" "futilePercent" "I", Cond.methodLink RL 96 yX5_advance, Cond.instanceMethod yX5_advance, Cond.selects RX5 yX5_advance yX5_advance, Cond.code yX5_advance cX5_advance 4 (some .int), Cond.methodLink RX5 181 yX2_passHour, Cond.instanceMethod yX2_passHour, Cond.selects RX2 yX2_passHour yX2_passHour, Cond.code yX2_passHour cX2_passHour 4 (some .int), Cond.fieldLink RX2 30 "IrrigationDistrict$State" "sums" "[I", Cond.fieldLink RX2 124 "IrrigationDistrict$Flow" "into" "[I", Cond.fieldLink RX2 133 "IrrigationDistrict$Flow" "got" "[I", Cond.methodLink RX2 118 yX1_distribute, Cond.methodLink RX2 127 yX2_supplyNow, Cond.methodLink RX2 130 yX1_lostIn, Cond.methodLink RX2 136 yX2_useWater, Cond.instanceMethod yX2_useWater, Cond.selects RX2 yX2_useWater yX2_useWater, Cond.code yX2_useWater cX2_useWater 7 none, Cond.fieldLink RX2 140 "IrrigationDistrict$User" "content" "I", Cond.fieldLink RX2 143 "IrrigationDistrict$User" "leak" "I"]
def wsL_refuses_r12 : List Cond := [Cond.fieldLink RX2 146 "IrrigationDistrict$User" "unitsMissed" "I", Cond.methodLink RL 79 yX5_gain, Cond.instanceMethod yX5_gain, Cond.selects RX5 yX5_gain yX5_gain, Cond.code yX5_gain cX5_gain 3 (some .int), Cond.methodLink RX5 194 yX2_isYounger, Cond.instanceMethod yX2_isYounger, Cond.selects RX2 yX2_isYounger yX2_isYounger, Cond.code yX2_isYounger cX2_isYounger 5 (some .boolean), Cond.methodLink RX5 197 yX5_gainOf, Cond.instanceMethod yX5_gainOf, Cond.selects RX5 yX5_gainOf yX5_gainOf, Cond.code yX5_gainOf cX5_gainOf 4 (some .int), Cond.fieldLink RX5 16 "IrrigationDistrict" "trial" "LIrrigationDistrict$State;", Cond.methodLink RX5 172 yX2_copyFrom, Cond.instanceMethod yX2_copyFrom, Cond.selects RX2 yX2_copyFrom yX2_copyFrom, Cond.code yX2_copyFrom cX2_copyFrom 4 none, Cond.fieldLink RX2 52 "IrrigationDistrict$Ditch" "parent" "I", Cond.fieldLink RX2 55 "IrrigationDistrict$Ditch" "gate" "I", Cond.fieldLink RX2 58 "IrrigationDistrict$Ditch" "loss" "I", Cond.fieldLink RX2 37 "IrrigationDistrict$State" "futilePercent" "I", Cond.methodLink RX2 67 yX4_copyFrom, Cond.instanceMethod yX4_copyFrom]
def wsL_refuses_r13 : List Cond := [Cond.selects RX4 yX4_copyFrom yX4_copyFrom, Cond.code yX4_copyFrom cX4_copyFrom 2 none, Cond.methodLink RX4 47 yX4_begin, Cond.methodLink RL 83 yX5_complaint, Cond.instanceMethod yX5_complaint, Cond.selects RX5 yX5_complaint yX5_complaint, Cond.code yX5_complaint cX5_complaint 3 (some .int), Cond.methodLink RX5 200 yX5_judge, Cond.instanceMethod yX5_judge, Cond.selects RX5 yX5_judge yX5_judge, Cond.code yX5_judge cX5_judge 5 (some .int), Cond.methodLink RX5 165 yX1_isContent, Cond.instanceMethod yX1_isContent, Cond.selects RX1 yX1_isContent yX1_isContent, Cond.code yX1_isContent cX1_isContent 2 (some .boolean), Cond.methodLink RL 99 yX5_willMiss, Cond.instanceMethod yX5_willMiss, Cond.selects RX5 yX5_willMiss yX5_willMiss, Cond.code yX5_willMiss cX5_willMiss 4 (some .int), Cond.methodLink RL 102 yX5_append, Cond.instanceMethod yX5_append, Cond.selects RX5 yX5_append yX5_append, Cond.code yX5_append cX5_append 2 (some .int), Cond.fieldLink RX5 37 "IrrigationDistrict" "text" "LIrrigationDistrict$Text;"]
def wsL_refuses_r14 : List Cond := [Cond.fieldLink RX5 214 "IrrigationDistrict$Text" "length" "I", Cond.methodLink RX5 207 yX3_isFull, Cond.instanceMethod yX3_isFull, Cond.selects RX3 yX3_isFull yX3_isFull, Cond.initialized RX3, Cond.code yX3_isFull cX3_isFull 1 (some .boolean), Cond.fieldLink RX3 19 "IrrigationDistrict$Text" "length" "I", Cond.methodLink RX5 210 yX3_put, Cond.instanceMethod yX3_put, Cond.selects RX3 yX3_put yX3_put, Cond.code yX3_put cX3_put 2 none, Cond.fieldLink RX3 15 "IrrigationDistrict$Text" "letters" "[C", Cond.methodLink RX3 22 yX3_isFull, Cond.methodLink RL 73 yX5_save, Cond.instanceMethod yX5_save, Cond.selects RX5 yX5_save yX5_save, Cond.code yX5_save cX5_save 2 (some .int), Cond.fieldLink RX5 19 "IrrigationDistrict" "slots" "[LIrrigationDistrict$State;", Cond.fieldLink RX5 23 "IrrigationDistrict" "saved" "[Z", Cond.methodLink RL 105 yX5_restore, Cond.instanceMethod yX5_restore, Cond.selects RX5 yX5_restore yX5_restore, Cond.code yX5_restore cX5_restore 2 (some .int), Cond.methodLink RL 108 yX5_isShut]
def wsL_refuses_r15 : List Cond := [Cond.instanceMethod yX5_isShut, Cond.selects RX5 yX5_isShut yX5_isShut, Cond.code yX5_isShut cX5_isShut 2 (some .int)]
def wsL_refuses : List Cond := .code yL_refuses cL_refuses 5 (some .boolean) :: ((wsL_refuses_r1 ++ (wsL_refuses_r2 ++ (wsL_refuses_r3 ++ (wsL_refuses_r4 ++ (wsL_refuses_r5 ++ (wsL_refuses_r6 ++ (wsL_refuses_r7 ++ (wsL_refuses_r8 ++ (wsL_refuses_r9 ++ (wsL_refuses_r10 ++ (wsL_refuses_r11 ++ (wsL_refuses_r12 ++ (wsL_refuses_r13 ++ (wsL_refuses_r14 ++ wsL_refuses_r15)))))))))))))) ++ wsX50 ++ wsX20 ++ wsX10 ++ wsX40 ++ wsX00 ++ wsX30)
theorem inJ9 : ∀ w ∈ wsJ90, w ∈ lw_tbl := by decide +kernel
theorem dX0_init_0 : decode cX0_init 0 = .ok (.aload_n 0, 1) := by decide +kernel
theorem dX0_init_1 : decode cX0_init 1 = .ok (.invokespecial 1, 3) := by decide +kernel
theorem dX0_init_4 : decode cX0_init 4 = .ok (.return_, 1) := by decide +kernel
theorem dX0_begin_0 : decode cX0_begin 0 = .ok (.aload_n 0, 1) := by decide +kernel
theorem dX0_begin_1 : decode cX0_begin 1 = .ok (.iload_n 1, 1) := by decide +kernel
theorem dX0_begin_2 : decode cX0_begin 2 = .ok (.putfield 7, 3) := by decide +kernel
theorem dX0_begin_5 : decode cX0_begin 5 = .ok (.aload_n 0, 1) := by decide +kernel
theorem dX0_begin_6 : decode cX0_begin 6 = .ok (.iload_n 2, 1) := by decide +kernel
theorem dX0_begin_7 : decode cX0_begin 7 = .ok (.putfield 13, 3) := by decide +kernel
theorem dX0_begin_10 : decode cX0_begin 10 = .ok (.aload_n 0, 1) := by decide +kernel
theorem dX0_begin_11 : decode cX0_begin 11 = .ok (.iload_n 3, 1) := by decide +kernel
theorem dX0_begin_12 : decode cX0_begin 12 = .ok (.putfield 16, 3) := by decide +kernel
theorem dX0_begin_15 : decode cX0_begin 15 = .ok (.return_, 1) := by decide +kernel
theorem dX0_passedOf_0 : decode cX0_passedOf 0 = .ok (.iload_n 1, 1) := by decide +kernel
theorem dX0_passedOf_1 : decode cX0_passedOf 1 = .ok (.iload_n 1, 1) := by decide +kernel
theorem dX0_passedOf_2 : decode cX0_passedOf 2 = .ok (.aload_n 0, 1) := by decide +kernel
theorem dX0_passedOf_3 : decode cX0_passedOf 3 = .ok (.getfield 16, 3) := by decide +kernel
theorem dX0_passedOf_6 : decode cX0_passedOf 6 = .ok (.imul, 1) := by decide +kernel
theorem dX0_passedOf_7 : decode cX0_passedOf 7 = .ok (.bipush 99, 2) := by decide +kernel
theorem dX0_passedOf_9 : decode cX0_passedOf 9 = .ok (.iadd, 1) := by decide +kernel
theorem dX0_passedOf_10 : decode cX0_passedOf 10 = .ok (.bipush 100, 2) := by decide +kernel
theorem dX0_passedOf_12 : decode cX0_passedOf 12 = .ok (.idiv, 1) := by decide +kernel
theorem dX0_passedOf_13 : decode cX0_passedOf 13 = .ok (.isub, 1) := by decide +kernel
theorem dX0_passedOf_14 : decode cX0_passedOf 14 = .ok (.ireturn, 1) := by decide +kernel
theorem dX0_inflowFor_0 : decode cX0_inflowFor 0 = .ok (.bipush 100, 2) := by decide +kernel
theorem dX0_inflowFor_2 : decode cX0_inflowFor 2 = .ok (.aload_n 0, 1) := by decide +kernel
theorem dX0_inflowFor_3 : decode cX0_inflowFor 3 = .ok (.getfield 16, 3) := by decide +kernel
theorem dX0_inflowFor_6 : decode cX0_inflowFor 6 = .ok (.isub, 1) := by decide +kernel
theorem dX0_inflowFor_7 : decode cX0_inflowFor 7 = .ok (.istore_n 2, 1) := by decide +kernel
theorem dX0_inflowFor_8 : decode cX0_inflowFor 8 = .ok (.iload_n 2, 1) := by decide +kernel
theorem dX0_inflowFor_9 : decode cX0_inflowFor 9 = .ok (.ifCond .le 16, 3) := by decide +kernel
theorem dX0_inflowFor_12 : decode cX0_inflowFor 12 = .ok (.bipush 100, 2) := by decide +kernel
theorem dX0_inflowFor_14 : decode cX0_inflowFor 14 = .ok (.iload_n 1, 1) := by decide +kernel
theorem dX0_inflowFor_15 : decode cX0_inflowFor 15 = .ok (.imul, 1) := by decide +kernel
theorem dX0_inflowFor_16 : decode cX0_inflowFor 16 = .ok (.iload_n 2, 1) := by decide +kernel
theorem dX0_inflowFor_17 : decode cX0_inflowFor 17 = .ok (.iadd, 1) := by decide +kernel
theorem dX0_inflowFor_18 : decode cX0_inflowFor 18 = .ok (.iconst 1, 1) := by decide +kernel
theorem dX0_inflowFor_19 : decode cX0_inflowFor 19 = .ok (.isub, 1) := by decide +kernel
theorem dX0_inflowFor_20 : decode cX0_inflowFor 20 = .ok (.iload_n 2, 1) := by decide +kernel
theorem dX0_inflowFor_21 : decode cX0_inflowFor 21 = .ok (.idiv, 1) := by decide +kernel
theorem dX0_inflowFor_22 : decode cX0_inflowFor 22 = .ok (.goto 4, 3) := by decide +kernel
theorem dX0_inflowFor_25 : decode cX0_inflowFor 25 = .ok (.iconst 0, 1) := by decide +kernel
theorem dX0_inflowFor_26 : decode cX0_inflowFor 26 = .ok (.ireturn, 1) := by decide +kernel
theorem dX1_init_0 : decode cX1_init 0 = .ok (.aload_n 0, 1) := by decide +kernel
theorem dX1_init_1 : decode cX1_init 1 = .ok (.invokespecial 3, 3) := by decide +kernel
theorem dX1_init_4 : decode cX1_init 4 = .ok (.aload_n 0, 1) := by decide +kernel
theorem dX1_init_5 : decode cX1_init 5 = .ok (.bipush 12, 2) := by decide +kernel
theorem dX1_init_7 : decode cX1_init 7 = .ok (.newarray .int, 2) := by decide +kernel
theorem dX1_init_9 : decode cX1_init 9 = .ok (.putfield 9, 3) := by decide +kernel
theorem dX1_init_12 : decode cX1_init 12 = .ok (.aload_n 0, 1) := by decide +kernel
theorem dX1_init_13 : decode cX1_init 13 = .ok (.bipush 12, 2) := by decide +kernel
theorem dX1_init_15 : decode cX1_init 15 = .ok (.newarray .int, 2) := by decide +kernel
theorem dX1_init_17 : decode cX1_init 17 = .ok (.putfield 15, 3) := by decide +kernel
theorem dX1_init_20 : decode cX1_init 20 = .ok (.aload_n 0, 1) := by decide +kernel
theorem dX1_init_21 : decode cX1_init 21 = .ok (.bipush 10, 2) := by decide +kernel
theorem dX1_init_23 : decode cX1_init 23 = .ok (.newarray .int, 2) := by decide +kernel
theorem dX1_init_25 : decode cX1_init 25 = .ok (.putfield 18, 3) := by decide +kernel
theorem dX1_init_28 : decode cX1_init 28 = .ok (.aload_n 0, 1) := by decide +kernel
theorem dX1_init_29 : decode cX1_init 29 = .ok (.bipush 10, 2) := by decide +kernel
theorem dX1_init_31 : decode cX1_init 31 = .ok (.newarray .int, 2) := by decide +kernel
theorem dX1_init_33 : decode cX1_init 33 = .ok (.putfield 21, 3) := by decide +kernel
theorem dX1_init_36 : decode cX1_init 36 = .ok (.aload_n 0, 1) := by decide +kernel
theorem dX1_init_37 : decode cX1_init 37 = .ok (.bipush 10, 2) := by decide +kernel
theorem dX1_init_39 : decode cX1_init 39 = .ok (.newarray .int, 2) := by decide +kernel
theorem dX1_init_41 : decode cX1_init 41 = .ok (.putfield 24, 3) := by decide +kernel
theorem dX1_init_44 : decode cX1_init 44 = .ok (.return_, 1) := by decide +kernel
set_option maxRecDepth 20000 in
theorem ggX1_distribute_X2_supplyNow : GoodIn wsX1_distribute wsX2_supplyNow := goodIn_r _ [11, 12, 13, 14, 15, 10, 16, 17, 18, 19, 20, 21, 109, 110, 111, 112, 113, 114, 115, 116, 117, 118] (by decide +kernel) (by decide +kernel)
set_option maxRecDepth 20000 in
theorem gX1_distribute_X2_supplyNow : GoodIn wsX1_distribute (wsV RX1 27 RX2 yX2_supplyNow wsX2_supplyNow) := goodIn_app (goodIn_of _ (by decide +kernel)) ggX1_distribute_X2_supplyNow
set_option maxRecDepth 20000 in
theorem ggX1_distribute_X2_userInTurn : GoodIn wsX1_distribute wsX2_userInTurn := goodIn_r _ [25, 26, 27, 28, 29, 17, 18, 19, 20, 21, 109, 110, 111, 112, 113, 114, 115, 116, 117, 118, 119, 120, 121, 122, 123, 124, 125, 126, 127, 128, 129, 130] (by decide +kernel) (by decide +kernel)
set_option maxRecDepth 20000 in
theorem gX1_distribute_X2_userInTurn : GoodIn wsX1_distribute (wsV RX1 37 RX2 yX2_userInTurn wsX2_userInTurn) := goodIn_app (goodIn_of _ (by decide +kernel)) ggX1_distribute_X2_userInTurn
set_option maxRecDepth 20000 in
theorem ggX1_distribute_X2_unitsAsked : GoodIn wsX1_distribute wsX2_unitsAsked := goodIn_r _ [33, 27, 34, 35, 36, 37, 38, 39, 13, 14, 15, 10, 16, 17, 18, 19, 20, 21, 40, 41, 42, 43, 44, 45, 46, 47, 48, 49, 50, 51, 52, 53, 109, 110, 111, 112, 113, 114, 115, 116, 117, 118, 119, 120, 121, 122, 123, 124, 125, 126, 127, 128, 129, 130] (by decide +kernel) (by decide +kernel)
set_option maxRecDepth 20000 in
theorem gX1_distribute_X2_unitsAsked : GoodIn wsX1_distribute (wsV RX1 43 RX2 yX2_unitsAsked wsX2_unitsAsked) := goodIn_app (goodIn_of _ (by decide +kernel)) ggX1_distribute_X2_unitsAsked
set_option maxRecDepth 20000 in
theorem ggX1_distribute_X1_giveGreatestShares : GoodIn wsX1_distribute wsX1_giveGreatestShares := goodIn_r _ [58, 59, 60, 61, 57, 62, 2, 4, 3, 63, 64, 65, 66, 67, 68, 69, 70, 71, 72, 73, 74, 75, 76, 77, 78, 79, 80, 81, 82, 83, 1, 84, 109, 110, 111, 112, 113, 114, 115, 116, 117, 118, 103, 104, 105, 106, 107, 108, 119, 120, 121, 122, 123, 124, 125, 126, 127, 128, 129, 130, 131, 132, 133] (by decide +kernel) (by decide +kernel)
set_option maxRecDepth 20000 in
theorem gX1_distribute_X1_giveGreatestShares : GoodIn wsX1_distribute (wsV RX1 50 RX1 yX1_giveGreatestShares wsX1_giveGreatestShares) := goodIn_app (goodIn_of _ (by decide +kernel)) ggX1_distribute_X1_giveGreatestShares
set_option maxRecDepth 20000 in
theorem ggX1_distribute_X1_spread : GoodIn wsX1_distribute wsX1_spread := goodIn_r _ [66, 67, 68, 2, 69, 70, 4, 71, 72, 73, 74, 75, 76, 77, 78, 79, 109, 110, 111, 112, 113, 114, 115, 116, 117, 118, 103, 104, 105, 106, 107, 108, 119, 120, 121, 122, 123, 124, 125, 126, 127, 128, 129, 130, 131, 132, 133] (by decide +kernel) (by decide +kernel)
set_option maxRecDepth 20000 in
theorem gX1_distribute_X1_spread : GoodIn wsX1_distribute (wsV RX1 54 RX1 yX1_spread wsX1_spread) := goodIn_app (goodIn_of _ (by decide +kernel)) ggX1_distribute_X1_spread
set_option maxRecDepth 20000 in
theorem ggX1_distribute_X2_hasUser : GoodIn wsX1_distribute wsX2_hasUser := goodIn_r _ [88, 26, 109, 110, 111, 112, 113, 114, 115, 116, 117, 118] (by decide +kernel) (by decide +kernel)
set_option maxRecDepth 20000 in
theorem gX1_distribute_X2_hasUser : GoodIn wsX1_distribute (wsV RX1 57 RX2 yX2_hasUser wsX2_hasUser) := goodIn_app (goodIn_of _ (by decide +kernel)) ggX1_distribute_X2_hasUser
set_option maxRecDepth 20000 in
theorem ggX1_distribute_X1_serve : GoodIn wsX1_distribute wsX1_serve := goodIn_r _ [92, 3, 93, 37, 38, 39, 4, 94, 95, 96, 57, 97, 98, 72, 84, 1, 67, 73, 68, 71, 69, 70, 99, 100, 101, 77, 102, 79, 63, 64, 65, 66, 2, 74, 75, 76, 78, 103, 104, 105, 106, 107, 108, 109, 110, 111, 112, 113, 114, 115, 116, 117, 118, 131, 132, 133, 119, 120, 121, 122, 123, 124, 125, 126, 127, 128, 129, 130] (by decide +kernel) (by decide +kernel)
set_option maxRecDepth 20000 in
theorem gX1_distribute_X1_serve : GoodIn wsX1_distribute (wsV RX1 61 RX1 yX1_serve wsX1_serve) := goodIn_app (goodIn_of _ (by decide +kernel)) ggX1_distribute_X1_serve
theorem dX1_distribute_0 : decode cX1_distribute 0 = .ok (.aload_n 0, 1) := by decide +kernel
theorem dX1_distribute_1 : decode cX1_distribute 1 = .ok (.aload_n 1, 1) := by decide +kernel
theorem dX1_distribute_2 : decode cX1_distribute 2 = .ok (.invokevirtual 27, 3) := by decide +kernel
theorem dX1_distribute_5 : decode cX1_distribute 5 = .ok (.putfield 33, 3) := by decide +kernel
theorem dX1_distribute_8 : decode cX1_distribute 8 = .ok (.aload_n 1, 1) := by decide +kernel
theorem dX1_distribute_9 : decode cX1_distribute 9 = .ok (.invokevirtual 37, 3) := by decide +kernel
theorem dX1_distribute_12 : decode cX1_distribute 12 = .ok (.istore_n 2, 1) := by decide +kernel
theorem dX1_distribute_13 : decode cX1_distribute 13 = .ok (.iconst 0, 1) := by decide +kernel
theorem dX1_distribute_14 : decode cX1_distribute 14 = .ok (.istore_n 3, 1) := by decide +kernel
theorem dX1_distribute_15 : decode cX1_distribute 15 = .ok (.iload_n 3, 1) := by decide +kernel
theorem dX1_distribute_16 : decode cX1_distribute 16 = .ok (.aload_n 1, 1) := by decide +kernel
theorem dX1_distribute_17 : decode cX1_distribute 17 = .ok (.getfield 40, 3) := by decide +kernel
theorem dX1_distribute_20 : decode cX1_distribute 20 = .ok (.if_icmp .ge 28, 3) := by decide +kernel
theorem dX1_distribute_23 : decode cX1_distribute 23 = .ok (.aload_n 0, 1) := by decide +kernel
theorem dX1_distribute_24 : decode cX1_distribute 24 = .ok (.getfield 9, 3) := by decide +kernel
theorem dX1_distribute_27 : decode cX1_distribute 27 = .ok (.iload_n 3, 1) := by decide +kernel
theorem dX1_distribute_28 : decode cX1_distribute 28 = .ok (.aload_n 1, 1) := by decide +kernel
theorem dX1_distribute_29 : decode cX1_distribute 29 = .ok (.iload_n 3, 1) := by decide +kernel
theorem dX1_distribute_30 : decode cX1_distribute 30 = .ok (.iload_n 2, 1) := by decide +kernel
theorem dX1_distribute_31 : decode cX1_distribute 31 = .ok (.invokevirtual 43, 3) := by decide +kernel
theorem dX1_distribute_34 : decode cX1_distribute 34 = .ok (.iastore, 1) := by decide +kernel
theorem dX1_distribute_35 : decode cX1_distribute 35 = .ok (.aload_n 0, 1) := by decide +kernel
theorem dX1_distribute_36 : decode cX1_distribute 36 = .ok (.getfield 15, 3) := by decide +kernel
theorem dX1_distribute_39 : decode cX1_distribute 39 = .ok (.iload_n 3, 1) := by decide +kernel
theorem dX1_distribute_40 : decode cX1_distribute 40 = .ok (.iconst 0, 1) := by decide +kernel
theorem dX1_distribute_41 : decode cX1_distribute 41 = .ok (.iastore, 1) := by decide +kernel
theorem dX1_distribute_42 : decode cX1_distribute 42 = .ok (.iinc 3 1, 3) := by decide +kernel
theorem dX1_distribute_45 : decode cX1_distribute 45 = .ok (.goto (-30), 3) := by decide +kernel
theorem dX1_distribute_48 : decode cX1_distribute 48 = .ok (.aload_n 1, 1) := by decide +kernel
theorem dX1_distribute_49 : decode cX1_distribute 49 = .ok (.getfield 47, 3) := by decide +kernel
theorem dX1_distribute_52 : decode cX1_distribute 52 = .ok (.iconst 2, 1) := by decide +kernel
theorem dX1_distribute_53 : decode cX1_distribute 53 = .ok (.if_icmp .ne 8, 3) := by decide +kernel
theorem dX1_distribute_56 : decode cX1_distribute 56 = .ok (.aload_n 0, 1) := by decide +kernel
theorem dX1_distribute_57 : decode cX1_distribute 57 = .ok (.aload_n 1, 1) := by decide +kernel
theorem dX1_distribute_58 : decode cX1_distribute 58 = .ok (.invokevirtual 50, 3) := by decide +kernel
theorem dX1_distribute_61 : decode cX1_distribute 61 = .ok (.aload_n 0, 1) := by decide +kernel
theorem dX1_distribute_62 : decode cX1_distribute 62 = .ok (.aload_n 1, 1) := by decide +kernel
theorem dX1_distribute_63 : decode cX1_distribute 63 = .ok (.invokevirtual 54, 3) := by decide +kernel
theorem dX1_distribute_66 : decode cX1_distribute 66 = .ok (.aload_n 1, 1) := by decide +kernel
theorem dX1_distribute_67 : decode cX1_distribute 67 = .ok (.iload_n 2, 1) := by decide +kernel
theorem dX1_distribute_68 : decode cX1_distribute 68 = .ok (.invokevirtual 57, 3) := by decide +kernel
theorem dX1_distribute_71 : decode cX1_distribute 71 = .ok (.ifCond .eq 9, 3) := by decide +kernel
theorem dX1_distribute_74 : decode cX1_distribute 74 = .ok (.aload_n 0, 1) := by decide +kernel
theorem dX1_distribute_75 : decode cX1_distribute 75 = .ok (.aload_n 1, 1) := by decide +kernel
theorem dX1_distribute_76 : decode cX1_distribute 76 = .ok (.iload_n 2, 1) := by decide +kernel
theorem dX1_distribute_77 : decode cX1_distribute 77 = .ok (.invokevirtual 61, 3) := by decide +kernel
theorem dX1_distribute_80 : decode cX1_distribute 80 = .ok (.iconst 0, 1) := by decide +kernel
theorem dX1_distribute_81 : decode cX1_distribute 81 = .ok (.istore_n 3, 1) := by decide +kernel
theorem dX1_distribute_82 : decode cX1_distribute 82 = .ok (.iload_n 3, 1) := by decide +kernel
theorem dX1_distribute_83 : decode cX1_distribute 83 = .ok (.aload_n 1, 1) := by decide +kernel
theorem dX1_distribute_84 : decode cX1_distribute 84 = .ok (.getfield 40, 3) := by decide +kernel
theorem dX1_distribute_87 : decode cX1_distribute 87 = .ok (.if_icmp .ge 30, 3) := by decide +kernel
theorem dX1_distribute_90 : decode cX1_distribute 90 = .ok (.aload_n 1, 1) := by decide +kernel
theorem dX1_distribute_91 : decode cX1_distribute 91 = .ok (.getfield 65, 3) := by decide +kernel
theorem dX1_distribute_94 : decode cX1_distribute 94 = .ok (.iload_n 3, 1) := by decide +kernel
theorem dX1_distribute_95 : decode cX1_distribute 95 = .ok (.iaload, 1) := by decide +kernel
theorem dX1_distribute_96 : decode cX1_distribute 96 = .ok (.istore 4, 2) := by decide +kernel
theorem dX1_distribute_98 : decode cX1_distribute 98 = .ok (.iload 4, 2) := by decide +kernel
theorem dX1_distribute_100 : decode cX1_distribute 100 = .ok (.iload_n 2, 1) := by decide +kernel
theorem dX1_distribute_101 : decode cX1_distribute 101 = .ok (.if_icmp .eq 10, 3) := by decide +kernel
theorem dX1_distribute_104 : decode cX1_distribute 104 = .ok (.aload_n 0, 1) := by decide +kernel
theorem dX1_distribute_105 : decode cX1_distribute 105 = .ok (.aload_n 1, 1) := by decide +kernel
theorem dX1_distribute_106 : decode cX1_distribute 106 = .ok (.iload 4, 2) := by decide +kernel
theorem dX1_distribute_108 : decode cX1_distribute 108 = .ok (.invokevirtual 61, 3) := by decide +kernel
theorem dX1_distribute_111 : decode cX1_distribute 111 = .ok (.iinc 3 1, 3) := by decide +kernel
theorem dX1_distribute_114 : decode cX1_distribute 114 = .ok (.goto (-32), 3) := by decide +kernel
theorem dX1_distribute_117 : decode cX1_distribute 117 = .ok (.return_, 1) := by decide +kernel
theorem dX1_isContent_0 : decode cX1_isContent 0 = .ok (.aload_n 0, 1) := by decide +kernel
theorem dX1_isContent_1 : decode cX1_isContent 1 = .ok (.getfield 15, 3) := by decide +kernel
theorem dX1_isContent_4 : decode cX1_isContent 4 = .ok (.iload_n 1, 1) := by decide +kernel
theorem dX1_isContent_5 : decode cX1_isContent 5 = .ok (.iaload, 1) := by decide +kernel
theorem dX1_isContent_6 : decode cX1_isContent 6 = .ok (.aload_n 0, 1) := by decide +kernel
theorem dX1_isContent_7 : decode cX1_isContent 7 = .ok (.getfield 9, 3) := by decide +kernel
theorem dX1_isContent_10 : decode cX1_isContent 10 = .ok (.iload_n 1, 1) := by decide +kernel
theorem dX1_isContent_11 : decode cX1_isContent 11 = .ok (.iaload, 1) := by decide +kernel
theorem dX1_isContent_12 : decode cX1_isContent 12 = .ok (.if_icmp .ne 7, 3) := by decide +kernel
theorem dX1_isContent_15 : decode cX1_isContent 15 = .ok (.iconst 1, 1) := by decide +kernel
theorem dX1_isContent_16 : decode cX1_isContent 16 = .ok (.goto 4, 3) := by decide +kernel
theorem dX1_isContent_19 : decode cX1_isContent 19 = .ok (.iconst 0, 1) := by decide +kernel
theorem dX1_isContent_20 : decode cX1_isContent 20 = .ok (.ireturn, 1) := by decide +kernel
theorem dX1_lostIn_0 : decode cX1_lostIn 0 = .ok (.aload_n 0, 1) := by decide +kernel
theorem dX1_lostIn_1 : decode cX1_lostIn 1 = .ok (.getfield 18, 3) := by decide +kernel
theorem dX1_lostIn_4 : decode cX1_lostIn 4 = .ok (.iload_n 1, 1) := by decide +kernel
theorem dX1_lostIn_5 : decode cX1_lostIn 5 = .ok (.iaload, 1) := by decide +kernel
theorem dX1_lostIn_6 : decode cX1_lostIn 6 = .ok (.aload_n 0, 1) := by decide +kernel
theorem dX1_lostIn_7 : decode cX1_lostIn 7 = .ok (.getfield 21, 3) := by decide +kernel
theorem dX1_lostIn_10 : decode cX1_lostIn 10 = .ok (.iload_n 1, 1) := by decide +kernel
theorem dX1_lostIn_11 : decode cX1_lostIn 11 = .ok (.iaload, 1) := by decide +kernel
theorem dX1_lostIn_12 : decode cX1_lostIn 12 = .ok (.isub, 1) := by decide +kernel
theorem dX1_lostIn_13 : decode cX1_lostIn 13 = .ok (.ireturn, 1) := by decide +kernel
theorem dX1_unitsGot_0 : decode cX1_unitsGot 0 = .ok (.iconst 0, 1) := by decide +kernel
theorem dX1_unitsGot_1 : decode cX1_unitsGot 1 = .ok (.istore_n 2, 1) := by decide +kernel
theorem dX1_unitsGot_2 : decode cX1_unitsGot 2 = .ok (.iconst 0, 1) := by decide +kernel
theorem dX1_unitsGot_3 : decode cX1_unitsGot 3 = .ok (.istore_n 3, 1) := by decide +kernel
theorem dX1_unitsGot_4 : decode cX1_unitsGot 4 = .ok (.iload_n 3, 1) := by decide +kernel
theorem dX1_unitsGot_5 : decode cX1_unitsGot 5 = .ok (.aload_n 1, 1) := by decide +kernel
theorem dX1_unitsGot_6 : decode cX1_unitsGot 6 = .ok (.getfield 40, 3) := by decide +kernel
theorem dX1_unitsGot_9 : decode cX1_unitsGot 9 = .ok (.if_icmp .ge 18, 3) := by decide +kernel
theorem dX1_unitsGot_12 : decode cX1_unitsGot 12 = .ok (.iload_n 2, 1) := by decide +kernel
theorem dX1_unitsGot_13 : decode cX1_unitsGot 13 = .ok (.aload_n 0, 1) := by decide +kernel
theorem dX1_unitsGot_14 : decode cX1_unitsGot 14 = .ok (.getfield 15, 3) := by decide +kernel
theorem dX1_unitsGot_17 : decode cX1_unitsGot 17 = .ok (.iload_n 3, 1) := by decide +kernel
theorem dX1_unitsGot_18 : decode cX1_unitsGot 18 = .ok (.iaload, 1) := by decide +kernel
theorem dX1_unitsGot_19 : decode cX1_unitsGot 19 = .ok (.iadd, 1) := by decide +kernel
theorem dX1_unitsGot_20 : decode cX1_unitsGot 20 = .ok (.istore_n 2, 1) := by decide +kernel
theorem dX1_unitsGot_21 : decode cX1_unitsGot 21 = .ok (.iinc 3 1, 3) := by decide +kernel
theorem dX1_unitsGot_24 : decode cX1_unitsGot 24 = .ok (.goto (-20), 3) := by decide +kernel
theorem dX1_unitsGot_27 : decode cX1_unitsGot 27 = .ok (.iload_n 2, 1) := by decide +kernel
theorem dX1_unitsGot_28 : decode cX1_unitsGot 28 = .ok (.ireturn, 1) := by decide +kernel
set_option maxRecDepth 20000 in
theorem ggX1_ditchAgainstOneMore_X1_spread : GoodIn wsX1_ditchAgainstOneMore wsX1_spread := goodIn_r _ [13, 4, 14, 15, 2, 3, 1, 5, 6, 8, 16, 17, 18, 19, 20, 21, 28, 29, 30, 31, 32, 33, 34, 35, 36, 37, 22, 23, 24, 25, 26, 27, 38, 39, 40, 41, 42, 43, 44, 45, 46, 47, 48, 49, 50, 51, 52] (by decide +kernel) (by decide +kernel)
set_option maxRecDepth 20000 in
theorem gX1_ditchAgainstOneMore_X1_spread : GoodIn wsX1_ditchAgainstOneMore (wsV RX1 54 RX1 yX1_spread wsX1_spread) := goodIn_app (goodIn_of _ (by decide +kernel)) ggX1_ditchAgainstOneMore_X1_spread
theorem dX1_ditchAgainstOneMore_0 : decode cX1_ditchAgainstOneMore 0 = .ok (.aload_n 0, 1) := by decide +kernel
theorem dX1_ditchAgainstOneMore_1 : decode cX1_ditchAgainstOneMore 1 = .ok (.getfield 15, 3) := by decide +kernel
theorem dX1_ditchAgainstOneMore_4 : decode cX1_ditchAgainstOneMore 4 = .ok (.iload_n 2, 1) := by decide +kernel
theorem dX1_ditchAgainstOneMore_5 : decode cX1_ditchAgainstOneMore 5 = .ok (.dup2, 1) := by decide +kernel
theorem dX1_ditchAgainstOneMore_6 : decode cX1_ditchAgainstOneMore 6 = .ok (.iaload, 1) := by decide +kernel
theorem dX1_ditchAgainstOneMore_7 : decode cX1_ditchAgainstOneMore 7 = .ok (.iconst 1, 1) := by decide +kernel
theorem dX1_ditchAgainstOneMore_8 : decode cX1_ditchAgainstOneMore 8 = .ok (.iadd, 1) := by decide +kernel
theorem dX1_ditchAgainstOneMore_9 : decode cX1_ditchAgainstOneMore 9 = .ok (.iastore, 1) := by decide +kernel
theorem dX1_ditchAgainstOneMore_10 : decode cX1_ditchAgainstOneMore 10 = .ok (.aload_n 0, 1) := by decide +kernel
theorem dX1_ditchAgainstOneMore_11 : decode cX1_ditchAgainstOneMore 11 = .ok (.aload_n 1, 1) := by decide +kernel
theorem dX1_ditchAgainstOneMore_12 : decode cX1_ditchAgainstOneMore 12 = .ok (.invokevirtual 54, 3) := by decide +kernel
theorem dX1_ditchAgainstOneMore_15 : decode cX1_ditchAgainstOneMore 15 = .ok (.aload_n 1, 1) := by decide +kernel
theorem dX1_ditchAgainstOneMore_16 : decode cX1_ditchAgainstOneMore 16 = .ok (.getfield 68, 3) := by decide +kernel
theorem dX1_ditchAgainstOneMore_19 : decode cX1_ditchAgainstOneMore 19 = .ok (.iload_n 2, 1) := by decide +kernel
theorem dX1_ditchAgainstOneMore_20 : decode cX1_ditchAgainstOneMore 20 = .ok (.aaload, 1) := by decide +kernel
theorem dX1_ditchAgainstOneMore_21 : decode cX1_ditchAgainstOneMore 21 = .ok (.getfield 72, 3) := by decide +kernel
theorem dX1_ditchAgainstOneMore_24 : decode cX1_ditchAgainstOneMore 24 = .ok (.istore_n 3, 1) := by decide +kernel
theorem dX1_ditchAgainstOneMore_25 : decode cX1_ditchAgainstOneMore 25 = .ok (.iconst 0, 1) := by decide +kernel
theorem dX1_ditchAgainstOneMore_26 : decode cX1_ditchAgainstOneMore 26 = .ok (.istore 4, 2) := by decide +kernel
theorem dX1_ditchAgainstOneMore_28 : decode cX1_ditchAgainstOneMore 28 = .ok (.iload 4, 2) := by decide +kernel
theorem dX1_ditchAgainstOneMore_30 : decode cX1_ditchAgainstOneMore 30 = .ok (.aload_n 1, 1) := by decide +kernel
theorem dX1_ditchAgainstOneMore_31 : decode cX1_ditchAgainstOneMore 31 = .ok (.getfield 77, 3) := by decide +kernel
theorem dX1_ditchAgainstOneMore_34 : decode cX1_ditchAgainstOneMore 34 = .ok (.if_icmp .ge 39, 3) := by decide +kernel
theorem dX1_ditchAgainstOneMore_37 : decode cX1_ditchAgainstOneMore 37 = .ok (.aload_n 0, 1) := by decide +kernel
theorem dX1_ditchAgainstOneMore_38 : decode cX1_ditchAgainstOneMore 38 = .ok (.getfield 18, 3) := by decide +kernel
theorem dX1_ditchAgainstOneMore_41 : decode cX1_ditchAgainstOneMore 41 = .ok (.iload_n 3, 1) := by decide +kernel
theorem dX1_ditchAgainstOneMore_42 : decode cX1_ditchAgainstOneMore 42 = .ok (.iaload, 1) := by decide +kernel
theorem dX1_ditchAgainstOneMore_43 : decode cX1_ditchAgainstOneMore 43 = .ok (.aload_n 1, 1) := by decide +kernel
theorem dX1_ditchAgainstOneMore_44 : decode cX1_ditchAgainstOneMore 44 = .ok (.getfield 80, 3) := by decide +kernel
theorem dX1_ditchAgainstOneMore_47 : decode cX1_ditchAgainstOneMore 47 = .ok (.iload_n 3, 1) := by decide +kernel
theorem dX1_ditchAgainstOneMore_48 : decode cX1_ditchAgainstOneMore 48 = .ok (.aaload, 1) := by decide +kernel
theorem dX1_ditchAgainstOneMore_49 : decode cX1_ditchAgainstOneMore 49 = .ok (.getfield 83, 3) := by decide +kernel
theorem dX1_ditchAgainstOneMore_52 : decode cX1_ditchAgainstOneMore 52 = .ok (.if_icmp .le 5, 3) := by decide +kernel
theorem dX1_ditchAgainstOneMore_55 : decode cX1_ditchAgainstOneMore 55 = .ok (.iload_n 3, 1) := by decide +kernel
theorem dX1_ditchAgainstOneMore_56 : decode cX1_ditchAgainstOneMore 56 = .ok (.ireturn, 1) := by decide +kernel
theorem dX1_ditchAgainstOneMore_57 : decode cX1_ditchAgainstOneMore 57 = .ok (.aload_n 1, 1) := by decide +kernel
theorem dX1_ditchAgainstOneMore_58 : decode cX1_ditchAgainstOneMore 58 = .ok (.getfield 80, 3) := by decide +kernel
theorem dX1_ditchAgainstOneMore_61 : decode cX1_ditchAgainstOneMore 61 = .ok (.iload_n 3, 1) := by decide +kernel
theorem dX1_ditchAgainstOneMore_62 : decode cX1_ditchAgainstOneMore 62 = .ok (.aaload, 1) := by decide +kernel
theorem dX1_ditchAgainstOneMore_63 : decode cX1_ditchAgainstOneMore 63 = .ok (.getfield 88, 3) := by decide +kernel
theorem dX1_ditchAgainstOneMore_66 : decode cX1_ditchAgainstOneMore 66 = .ok (.istore_n 3, 1) := by decide +kernel
theorem dX1_ditchAgainstOneMore_67 : decode cX1_ditchAgainstOneMore 67 = .ok (.iinc 4 1, 3) := by decide +kernel
theorem dX1_ditchAgainstOneMore_70 : decode cX1_ditchAgainstOneMore 70 = .ok (.goto (-42), 3) := by decide +kernel
theorem dX1_ditchAgainstOneMore_73 : decode cX1_ditchAgainstOneMore 73 = .ok (.bipush (-105), 2) := by decide +kernel
theorem dX1_ditchAgainstOneMore_75 : decode cX1_ditchAgainstOneMore 75 = .ok (.ireturn, 1) := by decide +kernel
set_option maxRecDepth 20000 in
theorem ggX1_giveGreatestShares_X1_giveShares : GoodIn wsX1_giveGreatestShares wsX1_giveShares := goodIn_r _ [5, 6, 7, 8, 32, 33, 34, 35, 36, 37, 38, 39, 40, 41, 42, 43, 44, 45, 46, 47] (by decide +kernel) (by decide +kernel)
set_option maxRecDepth 20000 in
theorem gX1_giveGreatestShares_X1_giveShares : GoodIn wsX1_giveGreatestShares (wsV RX1 91 RX1 yX1_giveShares wsX1_giveShares) := goodIn_app (goodIn_of _ (by decide +kernel)) ggX1_giveGreatestShares_X1_giveShares
set_option maxRecDepth 20000 in
theorem ggX1_giveGreatestShares_X1_spread : GoodIn wsX1_giveGreatestShares wsX1_spread := goodIn_r _ [12, 13, 14, 6, 15, 16, 7, 17, 18, 19, 20, 21, 22, 23, 24, 25, 32, 33, 34, 35, 36, 37, 38, 39, 40, 41, 42, 43, 44, 45, 46, 47, 48, 49, 50, 51, 52, 53, 54, 55, 56, 57, 58, 59, 60, 61, 62] (by decide +kernel) (by decide +kernel)
set_option maxRecDepth 20000 in
theorem gX1_giveGreatestShares_X1_spread : GoodIn wsX1_giveGreatestShares (wsV RX1 54 RX1 yX1_spread wsX1_spread) := goodIn_app (goodIn_of _ (by decide +kernel)) ggX1_giveGreatestShares_X1_spread
set_option maxRecDepth 20000 in
theorem ggX1_giveGreatestShares_X1_isPossible : GoodIn wsX1_giveGreatestShares wsX1_isPossible := goodIn_r _ [29, 17, 30, 13, 18, 31, 42, 43, 44, 45, 46, 47, 32, 33, 34, 35, 36, 37, 38, 39, 40, 41, 60, 61, 62] (by decide +kernel) (by decide +kernel)
set_option maxRecDepth 20000 in
theorem gX1_giveGreatestShares_X1_isPossible : GoodIn wsX1_giveGreatestShares (wsV RX1 94 RX1 yX1_isPossible wsX1_isPossible) := goodIn_app (goodIn_of _ (by decide +kernel)) ggX1_giveGreatestShares_X1_isPossible
theorem dX1_giveGreatestShares_0 : decode cX1_giveGreatestShares 0 = .ok (.iconst 0, 1) := by decide +kernel
theorem dX1_giveGreatestShares_1 : decode cX1_giveGreatestShares 1 = .ok (.istore_n 2, 1) := by decide +kernel
theorem dX1_giveGreatestShares_2 : decode cX1_giveGreatestShares 2 = .ok (.bipush 64, 2) := by decide +kernel
theorem dX1_giveGreatestShares_4 : decode cX1_giveGreatestShares 4 = .ok (.istore_n 3, 1) := by decide +kernel
theorem dX1_giveGreatestShares_5 : decode cX1_giveGreatestShares 5 = .ok (.iload_n 3, 1) := by decide +kernel
theorem dX1_giveGreatestShares_6 : decode cX1_giveGreatestShares 6 = .ok (.ifCond .le 43, 3) := by decide +kernel
theorem dX1_giveGreatestShares_9 : decode cX1_giveGreatestShares 9 = .ok (.iload_n 2, 1) := by decide +kernel
theorem dX1_giveGreatestShares_10 : decode cX1_giveGreatestShares 10 = .ok (.iload_n 3, 1) := by decide +kernel
theorem dX1_giveGreatestShares_11 : decode cX1_giveGreatestShares 11 = .ok (.iadd, 1) := by decide +kernel
theorem dX1_giveGreatestShares_12 : decode cX1_giveGreatestShares 12 = .ok (.bipush 100, 2) := by decide +kernel
theorem dX1_giveGreatestShares_14 : decode cX1_giveGreatestShares 14 = .ok (.if_icmp .gt 28, 3) := by decide +kernel
theorem dX1_giveGreatestShares_17 : decode cX1_giveGreatestShares 17 = .ok (.aload_n 0, 1) := by decide +kernel
theorem dX1_giveGreatestShares_18 : decode cX1_giveGreatestShares 18 = .ok (.aload_n 1, 1) := by decide +kernel
theorem dX1_giveGreatestShares_19 : decode cX1_giveGreatestShares 19 = .ok (.iload_n 2, 1) := by decide +kernel
theorem dX1_giveGreatestShares_20 : decode cX1_giveGreatestShares 20 = .ok (.iload_n 3, 1) := by decide +kernel
theorem dX1_giveGreatestShares_21 : decode cX1_giveGreatestShares 21 = .ok (.iadd, 1) := by decide +kernel
theorem dX1_giveGreatestShares_22 : decode cX1_giveGreatestShares 22 = .ok (.invokevirtual 91, 3) := by decide +kernel
theorem dX1_giveGreatestShares_25 : decode cX1_giveGreatestShares 25 = .ok (.aload_n 0, 1) := by decide +kernel
theorem dX1_giveGreatestShares_26 : decode cX1_giveGreatestShares 26 = .ok (.aload_n 1, 1) := by decide +kernel
theorem dX1_giveGreatestShares_27 : decode cX1_giveGreatestShares 27 = .ok (.invokevirtual 54, 3) := by decide +kernel
theorem dX1_giveGreatestShares_30 : decode cX1_giveGreatestShares 30 = .ok (.aload_n 0, 1) := by decide +kernel
theorem dX1_giveGreatestShares_31 : decode cX1_giveGreatestShares 31 = .ok (.aload_n 1, 1) := by decide +kernel
theorem dX1_giveGreatestShares_32 : decode cX1_giveGreatestShares 32 = .ok (.invokevirtual 94, 3) := by decide +kernel
theorem dX1_giveGreatestShares_35 : decode cX1_giveGreatestShares 35 = .ok (.ifCond .eq 7, 3) := by decide +kernel
theorem dX1_giveGreatestShares_38 : decode cX1_giveGreatestShares 38 = .ok (.iload_n 2, 1) := by decide +kernel
theorem dX1_giveGreatestShares_39 : decode cX1_giveGreatestShares 39 = .ok (.iload_n 3, 1) := by decide +kernel
theorem dX1_giveGreatestShares_40 : decode cX1_giveGreatestShares 40 = .ok (.iadd, 1) := by decide +kernel
theorem dX1_giveGreatestShares_41 : decode cX1_giveGreatestShares 41 = .ok (.istore_n 2, 1) := by decide +kernel
theorem dX1_giveGreatestShares_42 : decode cX1_giveGreatestShares 42 = .ok (.iload_n 3, 1) := by decide +kernel
theorem dX1_giveGreatestShares_43 : decode cX1_giveGreatestShares 43 = .ok (.iconst 2, 1) := by decide +kernel
theorem dX1_giveGreatestShares_44 : decode cX1_giveGreatestShares 44 = .ok (.idiv, 1) := by decide +kernel
theorem dX1_giveGreatestShares_45 : decode cX1_giveGreatestShares 45 = .ok (.istore_n 3, 1) := by decide +kernel
theorem dX1_giveGreatestShares_46 : decode cX1_giveGreatestShares 46 = .ok (.goto (-41), 3) := by decide +kernel
theorem dX1_giveGreatestShares_49 : decode cX1_giveGreatestShares 49 = .ok (.aload_n 0, 1) := by decide +kernel
theorem dX1_giveGreatestShares_50 : decode cX1_giveGreatestShares 50 = .ok (.aload_n 1, 1) := by decide +kernel
theorem dX1_giveGreatestShares_51 : decode cX1_giveGreatestShares 51 = .ok (.iload_n 2, 1) := by decide +kernel
theorem dX1_giveGreatestShares_52 : decode cX1_giveGreatestShares 52 = .ok (.invokevirtual 91, 3) := by decide +kernel
theorem dX1_giveGreatestShares_55 : decode cX1_giveGreatestShares 55 = .ok (.return_, 1) := by decide +kernel
theorem dX1_isPossible_0 : decode cX1_isPossible 0 = .ok (.aload_n 0, 1) := by decide +kernel
theorem dX1_isPossible_1 : decode cX1_isPossible 1 = .ok (.getfield 18, 3) := by decide +kernel
theorem dX1_isPossible_4 : decode cX1_isPossible 4 = .ok (.iconst 0, 1) := by decide +kernel
theorem dX1_isPossible_5 : decode cX1_isPossible 5 = .ok (.iaload, 1) := by decide +kernel
theorem dX1_isPossible_6 : decode cX1_isPossible 6 = .ok (.aload_n 0, 1) := by decide +kernel
theorem dX1_isPossible_7 : decode cX1_isPossible 7 = .ok (.getfield 33, 3) := by decide +kernel
theorem dX1_isPossible_10 : decode cX1_isPossible 10 = .ok (.if_icmp .le 5, 3) := by decide +kernel
theorem dX1_isPossible_13 : decode cX1_isPossible 13 = .ok (.iconst 0, 1) := by decide +kernel
theorem dX1_isPossible_14 : decode cX1_isPossible 14 = .ok (.ireturn, 1) := by decide +kernel
theorem dX1_isPossible_15 : decode cX1_isPossible 15 = .ok (.iconst 0, 1) := by decide +kernel
theorem dX1_isPossible_16 : decode cX1_isPossible 16 = .ok (.istore_n 2, 1) := by decide +kernel
theorem dX1_isPossible_17 : decode cX1_isPossible 17 = .ok (.iload_n 2, 1) := by decide +kernel
theorem dX1_isPossible_18 : decode cX1_isPossible 18 = .ok (.aload_n 1, 1) := by decide +kernel
theorem dX1_isPossible_19 : decode cX1_isPossible 19 = .ok (.getfield 77, 3) := by decide +kernel
theorem dX1_isPossible_22 : decode cX1_isPossible 22 = .ok (.if_icmp .ge 29, 3) := by decide +kernel
theorem dX1_isPossible_25 : decode cX1_isPossible 25 = .ok (.aload_n 0, 1) := by decide +kernel
theorem dX1_isPossible_26 : decode cX1_isPossible 26 = .ok (.getfield 18, 3) := by decide +kernel
theorem dX1_isPossible_29 : decode cX1_isPossible 29 = .ok (.iload_n 2, 1) := by decide +kernel
theorem dX1_isPossible_30 : decode cX1_isPossible 30 = .ok (.iaload, 1) := by decide +kernel
theorem dX1_isPossible_31 : decode cX1_isPossible 31 = .ok (.aload_n 1, 1) := by decide +kernel
theorem dX1_isPossible_32 : decode cX1_isPossible 32 = .ok (.getfield 80, 3) := by decide +kernel
theorem dX1_isPossible_35 : decode cX1_isPossible 35 = .ok (.iload_n 2, 1) := by decide +kernel
theorem dX1_isPossible_36 : decode cX1_isPossible 36 = .ok (.aaload, 1) := by decide +kernel
theorem dX1_isPossible_37 : decode cX1_isPossible 37 = .ok (.getfield 83, 3) := by decide +kernel
theorem dX1_isPossible_40 : decode cX1_isPossible 40 = .ok (.if_icmp .le 5, 3) := by decide +kernel
theorem dX1_isPossible_43 : decode cX1_isPossible 43 = .ok (.iconst 0, 1) := by decide +kernel
theorem dX1_isPossible_44 : decode cX1_isPossible 44 = .ok (.ireturn, 1) := by decide +kernel
theorem dX1_isPossible_45 : decode cX1_isPossible 45 = .ok (.iinc 2 1, 3) := by decide +kernel
theorem dX1_isPossible_48 : decode cX1_isPossible 48 = .ok (.goto (-31), 3) := by decide +kernel
theorem dX1_isPossible_51 : decode cX1_isPossible 51 = .ok (.iconst 1, 1) := by decide +kernel
theorem dX1_isPossible_52 : decode cX1_isPossible 52 = .ok (.ireturn, 1) := by decide +kernel
theorem dX1_giveShares_0 : decode cX1_giveShares 0 = .ok (.iconst 0, 1) := by decide +kernel
theorem dX1_giveShares_1 : decode cX1_giveShares 1 = .ok (.istore_n 3, 1) := by decide +kernel
theorem dX1_giveShares_2 : decode cX1_giveShares 2 = .ok (.iload_n 3, 1) := by decide +kernel
theorem dX1_giveShares_3 : decode cX1_giveShares 3 = .ok (.aload_n 1, 1) := by decide +kernel
theorem dX1_giveShares_4 : decode cX1_giveShares 4 = .ok (.getfield 40, 3) := by decide +kernel
theorem dX1_giveShares_7 : decode cX1_giveShares 7 = .ok (.if_icmp .ge 26, 3) := by decide +kernel
theorem dX1_giveShares_10 : decode cX1_giveShares 10 = .ok (.aload_n 0, 1) := by decide +kernel
theorem dX1_giveShares_11 : decode cX1_giveShares 11 = .ok (.getfield 15, 3) := by decide +kernel
theorem dX1_giveShares_14 : decode cX1_giveShares 14 = .ok (.iload_n 3, 1) := by decide +kernel
theorem dX1_giveShares_15 : decode cX1_giveShares 15 = .ok (.aload_n 0, 1) := by decide +kernel
theorem dX1_giveShares_16 : decode cX1_giveShares 16 = .ok (.getfield 9, 3) := by decide +kernel
theorem dX1_giveShares_19 : decode cX1_giveShares 19 = .ok (.iload_n 3, 1) := by decide +kernel
theorem dX1_giveShares_20 : decode cX1_giveShares 20 = .ok (.iaload, 1) := by decide +kernel
theorem dX1_giveShares_21 : decode cX1_giveShares 21 = .ok (.iload_n 2, 1) := by decide +kernel
theorem dX1_giveShares_22 : decode cX1_giveShares 22 = .ok (.imul, 1) := by decide +kernel
theorem dX1_giveShares_23 : decode cX1_giveShares 23 = .ok (.bipush 100, 2) := by decide +kernel
theorem dX1_giveShares_25 : decode cX1_giveShares 25 = .ok (.idiv, 1) := by decide +kernel
theorem dX1_giveShares_26 : decode cX1_giveShares 26 = .ok (.iastore, 1) := by decide +kernel
theorem dX1_giveShares_27 : decode cX1_giveShares 27 = .ok (.iinc 3 1, 3) := by decide +kernel
theorem dX1_giveShares_30 : decode cX1_giveShares 30 = .ok (.goto (-28), 3) := by decide +kernel
theorem dX1_giveShares_33 : decode cX1_giveShares 33 = .ok (.return_, 1) := by decide +kernel
set_option maxRecDepth 20000 in
theorem ggX1_spread_X0_inflowFor : GoodIn wsX1_spread wsX0_inflowFor := goodIn_r _ [14, 15, 44, 45, 46] (by decide +kernel) (by decide +kernel)
set_option maxRecDepth 20000 in
theorem gX1_spread_X0_inflowFor : GoodIn wsX1_spread (wsV RX1 98 RX0 yX0_inflowFor wsX0_inflowFor) := goodIn_app (goodIn_of _ (by decide +kernel)) ggX1_spread_X0_inflowFor
theorem dX1_spread_0 : decode cX1_spread 0 = .ok (.iconst 0, 1) := by decide +kernel
theorem dX1_spread_1 : decode cX1_spread 1 = .ok (.istore_n 2, 1) := by decide +kernel
theorem dX1_spread_2 : decode cX1_spread 2 = .ok (.iload_n 2, 1) := by decide +kernel
theorem dX1_spread_3 : decode cX1_spread 3 = .ok (.aload_n 1, 1) := by decide +kernel
theorem dX1_spread_4 : decode cX1_spread 4 = .ok (.getfield 77, 3) := by decide +kernel
theorem dX1_spread_7 : decode cX1_spread 7 = .ok (.if_icmp .ge 16, 3) := by decide +kernel
theorem dX1_spread_10 : decode cX1_spread 10 = .ok (.aload_n 0, 1) := by decide +kernel
theorem dX1_spread_11 : decode cX1_spread 11 = .ok (.getfield 21, 3) := by decide +kernel
theorem dX1_spread_14 : decode cX1_spread 14 = .ok (.iload_n 2, 1) := by decide +kernel
theorem dX1_spread_15 : decode cX1_spread 15 = .ok (.iconst 0, 1) := by decide +kernel
theorem dX1_spread_16 : decode cX1_spread 16 = .ok (.iastore, 1) := by decide +kernel
theorem dX1_spread_17 : decode cX1_spread 17 = .ok (.iinc 2 1, 3) := by decide +kernel
theorem dX1_spread_20 : decode cX1_spread 20 = .ok (.goto (-18), 3) := by decide +kernel
theorem dX1_spread_23 : decode cX1_spread 23 = .ok (.iconst 0, 1) := by decide +kernel
theorem dX1_spread_24 : decode cX1_spread 24 = .ok (.istore_n 2, 1) := by decide +kernel
theorem dX1_spread_25 : decode cX1_spread 25 = .ok (.iload_n 2, 1) := by decide +kernel
theorem dX1_spread_26 : decode cX1_spread 26 = .ok (.aload_n 1, 1) := by decide +kernel
theorem dX1_spread_27 : decode cX1_spread 27 = .ok (.getfield 40, 3) := by decide +kernel
theorem dX1_spread_30 : decode cX1_spread 30 = .ok (.if_icmp .ge 32, 3) := by decide +kernel
theorem dX1_spread_33 : decode cX1_spread 33 = .ok (.aload_n 0, 1) := by decide +kernel
theorem dX1_spread_34 : decode cX1_spread 34 = .ok (.getfield 21, 3) := by decide +kernel
theorem dX1_spread_37 : decode cX1_spread 37 = .ok (.aload_n 1, 1) := by decide +kernel
theorem dX1_spread_38 : decode cX1_spread 38 = .ok (.getfield 68, 3) := by decide +kernel
theorem dX1_spread_41 : decode cX1_spread 41 = .ok (.iload_n 2, 1) := by decide +kernel
theorem dX1_spread_42 : decode cX1_spread 42 = .ok (.aaload, 1) := by decide +kernel
theorem dX1_spread_43 : decode cX1_spread 43 = .ok (.getfield 72, 3) := by decide +kernel
theorem dX1_spread_46 : decode cX1_spread 46 = .ok (.dup2, 1) := by decide +kernel
theorem dX1_spread_47 : decode cX1_spread 47 = .ok (.iaload, 1) := by decide +kernel
theorem dX1_spread_48 : decode cX1_spread 48 = .ok (.aload_n 0, 1) := by decide +kernel
theorem dX1_spread_49 : decode cX1_spread 49 = .ok (.getfield 15, 3) := by decide +kernel
theorem dX1_spread_52 : decode cX1_spread 52 = .ok (.iload_n 2, 1) := by decide +kernel
theorem dX1_spread_53 : decode cX1_spread 53 = .ok (.iaload, 1) := by decide +kernel
theorem dX1_spread_54 : decode cX1_spread 54 = .ok (.iadd, 1) := by decide +kernel
theorem dX1_spread_55 : decode cX1_spread 55 = .ok (.iastore, 1) := by decide +kernel
theorem dX1_spread_56 : decode cX1_spread 56 = .ok (.iinc 2 1, 3) := by decide +kernel
theorem dX1_spread_59 : decode cX1_spread 59 = .ok (.goto (-34), 3) := by decide +kernel
theorem dX1_spread_62 : decode cX1_spread 62 = .ok (.aload_n 1, 1) := by decide +kernel
theorem dX1_spread_63 : decode cX1_spread 63 = .ok (.getfield 77, 3) := by decide +kernel
theorem dX1_spread_66 : decode cX1_spread 66 = .ok (.iconst 1, 1) := by decide +kernel
theorem dX1_spread_67 : decode cX1_spread 67 = .ok (.isub, 1) := by decide +kernel
theorem dX1_spread_68 : decode cX1_spread 68 = .ok (.istore_n 2, 1) := by decide +kernel
theorem dX1_spread_69 : decode cX1_spread 69 = .ok (.iload_n 2, 1) := by decide +kernel
theorem dX1_spread_70 : decode cX1_spread 70 = .ok (.ifCond .lt 57, 3) := by decide +kernel
theorem dX1_spread_73 : decode cX1_spread 73 = .ok (.aload_n 0, 1) := by decide +kernel
theorem dX1_spread_74 : decode cX1_spread 74 = .ok (.getfield 18, 3) := by decide +kernel
theorem dX1_spread_77 : decode cX1_spread 77 = .ok (.iload_n 2, 1) := by decide +kernel
theorem dX1_spread_78 : decode cX1_spread 78 = .ok (.aload_n 1, 1) := by decide +kernel
theorem dX1_spread_79 : decode cX1_spread 79 = .ok (.getfield 80, 3) := by decide +kernel
theorem dX1_spread_82 : decode cX1_spread 82 = .ok (.iload_n 2, 1) := by decide +kernel
theorem dX1_spread_83 : decode cX1_spread 83 = .ok (.aaload, 1) := by decide +kernel
theorem dX1_spread_84 : decode cX1_spread 84 = .ok (.aload_n 0, 1) := by decide +kernel
theorem dX1_spread_85 : decode cX1_spread 85 = .ok (.getfield 21, 3) := by decide +kernel
theorem dX1_spread_88 : decode cX1_spread 88 = .ok (.iload_n 2, 1) := by decide +kernel
theorem dX1_spread_89 : decode cX1_spread 89 = .ok (.iaload, 1) := by decide +kernel
theorem dX1_spread_90 : decode cX1_spread 90 = .ok (.invokevirtual 98, 3) := by decide +kernel
theorem dX1_spread_93 : decode cX1_spread 93 = .ok (.iastore, 1) := by decide +kernel
theorem dX1_spread_94 : decode cX1_spread 94 = .ok (.iload_n 2, 1) := by decide +kernel
theorem dX1_spread_95 : decode cX1_spread 95 = .ok (.ifCond .le 26, 3) := by decide +kernel
theorem dX1_spread_98 : decode cX1_spread 98 = .ok (.aload_n 0, 1) := by decide +kernel
theorem dX1_spread_99 : decode cX1_spread 99 = .ok (.getfield 21, 3) := by decide +kernel
theorem dX1_spread_102 : decode cX1_spread 102 = .ok (.aload_n 1, 1) := by decide +kernel
theorem dX1_spread_103 : decode cX1_spread 103 = .ok (.getfield 80, 3) := by decide +kernel
theorem dX1_spread_106 : decode cX1_spread 106 = .ok (.iload_n 2, 1) := by decide +kernel
theorem dX1_spread_107 : decode cX1_spread 107 = .ok (.aaload, 1) := by decide +kernel
theorem dX1_spread_108 : decode cX1_spread 108 = .ok (.getfield 88, 3) := by decide +kernel
theorem dX1_spread_111 : decode cX1_spread 111 = .ok (.dup2, 1) := by decide +kernel
theorem dX1_spread_112 : decode cX1_spread 112 = .ok (.iaload, 1) := by decide +kernel
theorem dX1_spread_113 : decode cX1_spread 113 = .ok (.aload_n 0, 1) := by decide +kernel
theorem dX1_spread_114 : decode cX1_spread 114 = .ok (.getfield 18, 3) := by decide +kernel
theorem dX1_spread_117 : decode cX1_spread 117 = .ok (.iload_n 2, 1) := by decide +kernel
theorem dX1_spread_118 : decode cX1_spread 118 = .ok (.iaload, 1) := by decide +kernel
theorem dX1_spread_119 : decode cX1_spread 119 = .ok (.iadd, 1) := by decide +kernel
theorem dX1_spread_120 : decode cX1_spread 120 = .ok (.iastore, 1) := by decide +kernel
theorem dX1_spread_121 : decode cX1_spread 121 = .ok (.iinc 2 (-1), 3) := by decide +kernel
theorem dX1_spread_124 : decode cX1_spread 124 = .ok (.goto (-55), 3) := by decide +kernel
theorem dX1_spread_127 : decode cX1_spread 127 = .ok (.return_, 1) := by decide +kernel
set_option maxRecDepth 20000 in
theorem ggX1_serve_X1_mostFor : GoodIn wsX1_serve wsX1_mostFor := goodIn_r _ [11, 12, 13, 14, 15, 2, 3, 4, 5, 16, 17, 18, 19, 20, 21, 6, 22, 23, 24, 25, 26, 27, 37, 38, 39, 40, 41, 42, 43, 44, 45, 46, 47, 48, 49, 50, 51, 52, 53, 54, 55, 56, 57, 58, 59, 60, 61, 62, 63, 64, 65, 66, 67] (by decide +kernel) (by decide +kernel)
set_option maxRecDepth 20000 in
theorem gX1_serve_X1_mostFor : GoodIn wsX1_serve (wsV RX1 102 RX1 yX1_mostFor wsX1_mostFor) := goodIn_app (goodIn_of _ (by decide +kernel)) ggX1_serve_X1_mostFor
set_option maxRecDepth 20000 in
theorem ggX1_serve_X1_spread : GoodIn wsX1_serve wsX1_spread := goodIn_r _ [31, 16, 18, 32, 20, 21, 6, 19, 13, 17, 33, 34, 35, 25, 36, 27, 43, 44, 45, 46, 47, 48, 49, 50, 51, 52, 37, 38, 39, 40, 41, 42, 56, 57, 58, 59, 60, 61, 62, 63, 64, 65, 66, 67, 53, 54, 55] (by decide +kernel) (by decide +kernel)
set_option maxRecDepth 20000 in
theorem gX1_serve_X1_spread : GoodIn wsX1_serve (wsV RX1 54 RX1 yX1_spread wsX1_spread) := goodIn_app (goodIn_of _ (by decide +kernel)) ggX1_serve_X1_spread
theorem dX1_serve_0 : decode cX1_serve 0 = .ok (.aload_n 0, 1) := by decide +kernel
theorem dX1_serve_1 : decode cX1_serve 1 = .ok (.getfield 9, 3) := by decide +kernel
theorem dX1_serve_4 : decode cX1_serve 4 = .ok (.iload_n 2, 1) := by decide +kernel
theorem dX1_serve_5 : decode cX1_serve 5 = .ok (.iaload, 1) := by decide +kernel
theorem dX1_serve_6 : decode cX1_serve 6 = .ok (.aload_n 0, 1) := by decide +kernel
theorem dX1_serve_7 : decode cX1_serve 7 = .ok (.aload_n 1, 1) := by decide +kernel
theorem dX1_serve_8 : decode cX1_serve 8 = .ok (.iload_n 2, 1) := by decide +kernel
theorem dX1_serve_9 : decode cX1_serve 9 = .ok (.invokevirtual 102, 3) := by decide +kernel
theorem dX1_serve_12 : decode cX1_serve 12 = .ok (.invokestatic 106, 3) := by decide +kernel
theorem dX1_serve_15 : decode cX1_serve 15 = .ok (.istore_n 3, 1) := by decide +kernel
theorem dX1_serve_16 : decode cX1_serve 16 = .ok (.iload_n 3, 1) := by decide +kernel
theorem dX1_serve_17 : decode cX1_serve 17 = .ok (.aload_n 0, 1) := by decide +kernel
theorem dX1_serve_18 : decode cX1_serve 18 = .ok (.getfield 15, 3) := by decide +kernel
theorem dX1_serve_21 : decode cX1_serve 21 = .ok (.iload_n 2, 1) := by decide +kernel
theorem dX1_serve_22 : decode cX1_serve 22 = .ok (.iaload, 1) := by decide +kernel
theorem dX1_serve_23 : decode cX1_serve 23 = .ok (.if_icmp .le 15, 3) := by decide +kernel
theorem dX1_serve_26 : decode cX1_serve 26 = .ok (.aload_n 0, 1) := by decide +kernel
theorem dX1_serve_27 : decode cX1_serve 27 = .ok (.getfield 15, 3) := by decide +kernel
theorem dX1_serve_30 : decode cX1_serve 30 = .ok (.iload_n 2, 1) := by decide +kernel
theorem dX1_serve_31 : decode cX1_serve 31 = .ok (.iload_n 3, 1) := by decide +kernel
theorem dX1_serve_32 : decode cX1_serve 32 = .ok (.iastore, 1) := by decide +kernel
theorem dX1_serve_33 : decode cX1_serve 33 = .ok (.aload_n 0, 1) := by decide +kernel
theorem dX1_serve_34 : decode cX1_serve 34 = .ok (.aload_n 1, 1) := by decide +kernel
theorem dX1_serve_35 : decode cX1_serve 35 = .ok (.invokevirtual 54, 3) := by decide +kernel
theorem dX1_serve_38 : decode cX1_serve 38 = .ok (.return_, 1) := by decide +kernel
set_option maxRecDepth 20000 in
theorem ggX1_mostFor_X0_passedOf : GoodIn wsX1_mostFor wsX0_passedOf := goodIn_r _ [20, 21, 38, 39, 40] (by decide +kernel) (by decide +kernel)
set_option maxRecDepth 20000 in
theorem gX1_mostFor_X0_passedOf : GoodIn wsX1_mostFor (wsV RX1 111 RX0 yX0_passedOf wsX0_passedOf) := goodIn_app (goodIn_of _ (by decide +kernel)) ggX1_mostFor_X0_passedOf
theorem dX1_mostFor_0 : decode cX1_mostFor 0 = .ok (.aload_n 0, 1) := by decide +kernel
theorem dX1_mostFor_1 : decode cX1_mostFor 1 = .ok (.getfield 24, 3) := by decide +kernel
theorem dX1_mostFor_4 : decode cX1_mostFor 4 = .ok (.iconst 0, 1) := by decide +kernel
theorem dX1_mostFor_5 : decode cX1_mostFor 5 = .ok (.aload_n 1, 1) := by decide +kernel
theorem dX1_mostFor_6 : decode cX1_mostFor 6 = .ok (.getfield 80, 3) := by decide +kernel
theorem dX1_mostFor_9 : decode cX1_mostFor 9 = .ok (.iconst 0, 1) := by decide +kernel
theorem dX1_mostFor_10 : decode cX1_mostFor 10 = .ok (.aaload, 1) := by decide +kernel
theorem dX1_mostFor_11 : decode cX1_mostFor 11 = .ok (.getfield 83, 3) := by decide +kernel
theorem dX1_mostFor_14 : decode cX1_mostFor 14 = .ok (.aload_n 0, 1) := by decide +kernel
theorem dX1_mostFor_15 : decode cX1_mostFor 15 = .ok (.getfield 33, 3) := by decide +kernel
theorem dX1_mostFor_18 : decode cX1_mostFor 18 = .ok (.invokestatic 106, 3) := by decide +kernel
theorem dX1_mostFor_21 : decode cX1_mostFor 21 = .ok (.iastore, 1) := by decide +kernel
theorem dX1_mostFor_22 : decode cX1_mostFor 22 = .ok (.iconst 1, 1) := by decide +kernel
theorem dX1_mostFor_23 : decode cX1_mostFor 23 = .ok (.istore_n 3, 1) := by decide +kernel
theorem dX1_mostFor_24 : decode cX1_mostFor 24 = .ok (.iload_n 3, 1) := by decide +kernel
theorem dX1_mostFor_25 : decode cX1_mostFor 25 = .ok (.aload_n 1, 1) := by decide +kernel
theorem dX1_mostFor_26 : decode cX1_mostFor 26 = .ok (.getfield 77, 3) := by decide +kernel
theorem dX1_mostFor_29 : decode cX1_mostFor 29 = .ok (.if_icmp .ge 74, 3) := by decide +kernel
theorem dX1_mostFor_32 : decode cX1_mostFor 32 = .ok (.aload_n 1, 1) := by decide +kernel
theorem dX1_mostFor_33 : decode cX1_mostFor 33 = .ok (.getfield 80, 3) := by decide +kernel
theorem dX1_mostFor_36 : decode cX1_mostFor 36 = .ok (.iload_n 3, 1) := by decide +kernel
theorem dX1_mostFor_37 : decode cX1_mostFor 37 = .ok (.aaload, 1) := by decide +kernel
theorem dX1_mostFor_38 : decode cX1_mostFor 38 = .ok (.getfield 88, 3) := by decide +kernel
theorem dX1_mostFor_41 : decode cX1_mostFor 41 = .ok (.istore 4, 2) := by decide +kernel
theorem dX1_mostFor_43 : decode cX1_mostFor 43 = .ok (.aload_n 1, 1) := by decide +kernel
theorem dX1_mostFor_44 : decode cX1_mostFor 44 = .ok (.getfield 80, 3) := by decide +kernel
theorem dX1_mostFor_47 : decode cX1_mostFor 47 = .ok (.iload 4, 2) := by decide +kernel
theorem dX1_mostFor_49 : decode cX1_mostFor 49 = .ok (.aaload, 1) := by decide +kernel
theorem dX1_mostFor_50 : decode cX1_mostFor 50 = .ok (.aload_n 0, 1) := by decide +kernel
theorem dX1_mostFor_51 : decode cX1_mostFor 51 = .ok (.getfield 24, 3) := by decide +kernel
theorem dX1_mostFor_54 : decode cX1_mostFor 54 = .ok (.iload 4, 2) := by decide +kernel
theorem dX1_mostFor_56 : decode cX1_mostFor 56 = .ok (.iaload, 1) := by decide +kernel
theorem dX1_mostFor_57 : decode cX1_mostFor 57 = .ok (.invokevirtual 111, 3) := by decide +kernel
theorem dX1_mostFor_60 : decode cX1_mostFor 60 = .ok (.aload_n 0, 1) := by decide +kernel
theorem dX1_mostFor_61 : decode cX1_mostFor 61 = .ok (.getfield 21, 3) := by decide +kernel
theorem dX1_mostFor_64 : decode cX1_mostFor 64 = .ok (.iload 4, 2) := by decide +kernel
theorem dX1_mostFor_66 : decode cX1_mostFor 66 = .ok (.iaload, 1) := by decide +kernel
theorem dX1_mostFor_67 : decode cX1_mostFor 67 = .ok (.aload_n 0, 1) := by decide +kernel
theorem dX1_mostFor_68 : decode cX1_mostFor 68 = .ok (.getfield 18, 3) := by decide +kernel
theorem dX1_mostFor_71 : decode cX1_mostFor 71 = .ok (.iload_n 3, 1) := by decide +kernel
theorem dX1_mostFor_72 : decode cX1_mostFor 72 = .ok (.iaload, 1) := by decide +kernel
theorem dX1_mostFor_73 : decode cX1_mostFor 73 = .ok (.isub, 1) := by decide +kernel
theorem dX1_mostFor_74 : decode cX1_mostFor 74 = .ok (.isub, 1) := by decide +kernel
theorem dX1_mostFor_75 : decode cX1_mostFor 75 = .ok (.istore 5, 2) := by decide +kernel
theorem dX1_mostFor_77 : decode cX1_mostFor 77 = .ok (.aload_n 0, 1) := by decide +kernel
theorem dX1_mostFor_78 : decode cX1_mostFor 78 = .ok (.getfield 24, 3) := by decide +kernel
theorem dX1_mostFor_81 : decode cX1_mostFor 81 = .ok (.iload_n 3, 1) := by decide +kernel
theorem dX1_mostFor_82 : decode cX1_mostFor 82 = .ok (.aload_n 1, 1) := by decide +kernel
theorem dX1_mostFor_83 : decode cX1_mostFor 83 = .ok (.getfield 80, 3) := by decide +kernel
theorem dX1_mostFor_86 : decode cX1_mostFor 86 = .ok (.iload_n 3, 1) := by decide +kernel
theorem dX1_mostFor_87 : decode cX1_mostFor 87 = .ok (.aaload, 1) := by decide +kernel
theorem dX1_mostFor_88 : decode cX1_mostFor 88 = .ok (.getfield 83, 3) := by decide +kernel
theorem dX1_mostFor_91 : decode cX1_mostFor 91 = .ok (.iload 5, 2) := by decide +kernel
theorem dX1_mostFor_93 : decode cX1_mostFor 93 = .ok (.invokestatic 106, 3) := by decide +kernel
theorem dX1_mostFor_96 : decode cX1_mostFor 96 = .ok (.iastore, 1) := by decide +kernel
theorem dX1_mostFor_97 : decode cX1_mostFor 97 = .ok (.iinc 3 1, 3) := by decide +kernel
theorem dX1_mostFor_100 : decode cX1_mostFor 100 = .ok (.goto (-76), 3) := by decide +kernel
theorem dX1_mostFor_103 : decode cX1_mostFor 103 = .ok (.aload_n 1, 1) := by decide +kernel
theorem dX1_mostFor_104 : decode cX1_mostFor 104 = .ok (.getfield 68, 3) := by decide +kernel
theorem dX1_mostFor_107 : decode cX1_mostFor 107 = .ok (.iload_n 2, 1) := by decide +kernel
theorem dX1_mostFor_108 : decode cX1_mostFor 108 = .ok (.aaload, 1) := by decide +kernel
theorem dX1_mostFor_109 : decode cX1_mostFor 109 = .ok (.getfield 72, 3) := by decide +kernel
theorem dX1_mostFor_112 : decode cX1_mostFor 112 = .ok (.istore_n 3, 1) := by decide +kernel
theorem dX1_mostFor_113 : decode cX1_mostFor 113 = .ok (.aload_n 1, 1) := by decide +kernel
theorem dX1_mostFor_114 : decode cX1_mostFor 114 = .ok (.getfield 80, 3) := by decide +kernel
theorem dX1_mostFor_117 : decode cX1_mostFor 117 = .ok (.iload_n 3, 1) := by decide +kernel
theorem dX1_mostFor_118 : decode cX1_mostFor 118 = .ok (.aaload, 1) := by decide +kernel
theorem dX1_mostFor_119 : decode cX1_mostFor 119 = .ok (.aload_n 0, 1) := by decide +kernel
theorem dX1_mostFor_120 : decode cX1_mostFor 120 = .ok (.getfield 24, 3) := by decide +kernel
theorem dX1_mostFor_123 : decode cX1_mostFor 123 = .ok (.iload_n 3, 1) := by decide +kernel
theorem dX1_mostFor_124 : decode cX1_mostFor 124 = .ok (.iaload, 1) := by decide +kernel
theorem dX1_mostFor_125 : decode cX1_mostFor 125 = .ok (.invokevirtual 111, 3) := by decide +kernel
theorem dX1_mostFor_128 : decode cX1_mostFor 128 = .ok (.aload_n 0, 1) := by decide +kernel
theorem dX1_mostFor_129 : decode cX1_mostFor 129 = .ok (.getfield 21, 3) := by decide +kernel
theorem dX1_mostFor_132 : decode cX1_mostFor 132 = .ok (.iload_n 3, 1) := by decide +kernel
theorem dX1_mostFor_133 : decode cX1_mostFor 133 = .ok (.iaload, 1) := by decide +kernel
theorem dX1_mostFor_134 : decode cX1_mostFor 134 = .ok (.aload_n 0, 1) := by decide +kernel
theorem dX1_mostFor_135 : decode cX1_mostFor 135 = .ok (.getfield 15, 3) := by decide +kernel
theorem dX1_mostFor_138 : decode cX1_mostFor 138 = .ok (.iload_n 2, 1) := by decide +kernel
theorem dX1_mostFor_139 : decode cX1_mostFor 139 = .ok (.iaload, 1) := by decide +kernel
theorem dX1_mostFor_140 : decode cX1_mostFor 140 = .ok (.isub, 1) := by decide +kernel
theorem dX1_mostFor_141 : decode cX1_mostFor 141 = .ok (.isub, 1) := by decide +kernel
theorem dX1_mostFor_142 : decode cX1_mostFor 142 = .ok (.ireturn, 1) := by decide +kernel
set_option maxRecDepth 20000 in
theorem ggX2_init_X0_init : GoodIn wsX2_init wsX0_init := goodIn_r _ [19, 20, 2, 3] (by decide +kernel) (by decide +kernel)
set_option maxRecDepth 20000 in
theorem gX2_init_X0_init_n40 : GoodIn wsX2_init (wsX0_init) := ggX2_init_X0_init
set_option maxRecDepth 20000 in
theorem ggX2_init_X4_init : GoodIn wsX2_init wsX4_init := goodIn_r _ [22, 23, 2, 3] (by decide +kernel) (by decide +kernel)
set_option maxRecDepth 20000 in
theorem gX2_init_X4_init_n41 : GoodIn wsX2_init (wsX4_init) := ggX2_init_X4_init
set_option maxRecDepth 20000 in
theorem ggX2_init_X2_putSupply : GoodIn wsX2_init wsX2_putSupply := goodIn_r _ [28, 29, 30, 31, 32, 10, 49, 50, 51, 52, 53, 54, 55, 56, 57, 58] (by decide +kernel) (by decide +kernel)
set_option maxRecDepth 20000 in
theorem gX2_init_X2_putSupply : GoodIn wsX2_init (wsV RX2 42 RX2 yX2_putSupply wsX2_putSupply) := goodIn_app (goodIn_of _ (by decide +kernel)) ggX2_init_X2_putSupply
set_option maxRecDepth 20000 in
theorem ggX2_init_X2_putDitch : GoodIn wsX2_init wsX2_putDitch := goodIn_r _ [36, 5, 37, 38, 39, 40, 27, 41, 42, 43, 44, 15, 45, 46, 47, 48, 49, 50, 51, 52, 53, 54, 55, 56, 57, 58, 59, 60, 61] (by decide +kernel) (by decide +kernel)
set_option maxRecDepth 20000 in
theorem gX2_init_X2_putDitch : GoodIn wsX2_init (wsV RX2 46 RX2 yX2_putDitch wsX2_putDitch) := goodIn_app (goodIn_of _ (by decide +kernel)) ggX2_init_X2_putDitch
theorem dX2_init_0 : decode cX2_init 0 = .ok (.aload_n 0, 1) := by decide +kernel
theorem dX2_init_1 : decode cX2_init 1 = .ok (.invokespecial 3, 3) := by decide +kernel
theorem dX2_init_4 : decode cX2_init 4 = .ok (.aload_n 0, 1) := by decide +kernel
theorem dX2_init_5 : decode cX2_init 5 = .ok (.bipush 10, 2) := by decide +kernel
theorem dX2_init_7 : decode cX2_init 7 = .ok (.anewarray 9, 3) := by decide +kernel
theorem dX2_init_10 : decode cX2_init 10 = .ok (.putfield 11, 3) := by decide +kernel
theorem dX2_init_13 : decode cX2_init 13 = .ok (.aload_n 0, 1) := by decide +kernel
theorem dX2_init_14 : decode cX2_init 14 = .ok (.bipush 12, 2) := by decide +kernel
theorem dX2_init_16 : decode cX2_init 16 = .ok (.anewarray 17, 3) := by decide +kernel
theorem dX2_init_19 : decode cX2_init 19 = .ok (.putfield 19, 3) := by decide +kernel
theorem dX2_init_22 : decode cX2_init 22 = .ok (.aload_n 0, 1) := by decide +kernel
theorem dX2_init_23 : decode cX2_init 23 = .ok (.bipush 12, 2) := by decide +kernel
theorem dX2_init_25 : decode cX2_init 25 = .ok (.newarray .int, 2) := by decide +kernel
theorem dX2_init_27 : decode cX2_init 27 = .ok (.putfield 23, 3) := by decide +kernel
theorem dX2_init_30 : decode cX2_init 30 = .ok (.aload_n 0, 1) := by decide +kernel
theorem dX2_init_31 : decode cX2_init 31 = .ok (.bipush 24, 2) := by decide +kernel
theorem dX2_init_33 : decode cX2_init 33 = .ok (.newarray .int, 2) := by decide +kernel
theorem dX2_init_35 : decode cX2_init 35 = .ok (.putfield 27, 3) := by decide +kernel
theorem dX2_init_38 : decode cX2_init 38 = .ok (.aload_n 0, 1) := by decide +kernel
theorem dX2_init_39 : decode cX2_init 39 = .ok (.bipush 7, 2) := by decide +kernel
theorem dX2_init_41 : decode cX2_init 41 = .ok (.newarray .int, 2) := by decide +kernel
theorem dX2_init_43 : decode cX2_init 43 = .ok (.putfield 30, 3) := by decide +kernel
theorem dX2_init_46 : decode cX2_init 46 = .ok (.aload_n 0, 1) := by decide +kernel
theorem dX2_init_47 : decode cX2_init 47 = .ok (.iconst 0, 1) := by decide +kernel
theorem dX2_init_48 : decode cX2_init 48 = .ok (.putfield 33, 3) := by decide +kernel
theorem dX2_init_51 : decode cX2_init 51 = .ok (.aload_n 0, 1) := by decide +kernel
theorem dX2_init_52 : decode cX2_init 52 = .ok (.bipush 30, 2) := by decide +kernel
theorem dX2_init_54 : decode cX2_init 54 = .ok (.putfield 37, 3) := by decide +kernel
theorem dX2_init_57 : decode cX2_init 57 = .ok (.iconst 0, 1) := by decide +kernel
theorem dX2_init_58 : decode cX2_init 58 = .ok (.istore_n 1, 1) := by decide +kernel
theorem dX2_init_59 : decode cX2_init 59 = .ok (.iload_n 1, 1) := by decide +kernel
theorem dX2_init_60 : decode cX2_init 60 = .ok (.bipush 10, 2) := by decide +kernel
theorem dX2_init_62 : decode cX2_init 62 = .ok (.if_icmp .ge 22, 3) := by decide +kernel
theorem dX2_init_65 : decode cX2_init 65 = .ok (.aload_n 0, 1) := by decide +kernel
theorem dX2_init_66 : decode cX2_init 66 = .ok (.getfield 11, 3) := by decide +kernel
theorem dX2_init_69 : decode cX2_init 69 = .ok (.iload_n 1, 1) := by decide +kernel
theorem dX2_init_70 : decode cX2_init 70 = .ok (.new 9, 3) := by decide +kernel
theorem dX2_init_73 : decode cX2_init 73 = .ok (.dup, 1) := by decide +kernel
theorem dX2_init_74 : decode cX2_init 74 = .ok (.invokespecial 40, 3) := by decide +kernel
theorem dX2_init_77 : decode cX2_init 77 = .ok (.aastore, 1) := by decide +kernel
theorem dX2_init_78 : decode cX2_init 78 = .ok (.iinc 1 1, 3) := by decide +kernel
theorem dX2_init_81 : decode cX2_init 81 = .ok (.goto (-22), 3) := by decide +kernel
theorem dX2_init_84 : decode cX2_init 84 = .ok (.iconst 0, 1) := by decide +kernel
theorem dX2_init_85 : decode cX2_init 85 = .ok (.istore_n 1, 1) := by decide +kernel
theorem dX2_init_86 : decode cX2_init 86 = .ok (.iload_n 1, 1) := by decide +kernel
theorem dX2_init_87 : decode cX2_init 87 = .ok (.bipush 12, 2) := by decide +kernel
theorem dX2_init_89 : decode cX2_init 89 = .ok (.if_icmp .ge 22, 3) := by decide +kernel
theorem dX2_init_92 : decode cX2_init 92 = .ok (.aload_n 0, 1) := by decide +kernel
theorem dX2_init_93 : decode cX2_init 93 = .ok (.getfield 19, 3) := by decide +kernel
theorem dX2_init_96 : decode cX2_init 96 = .ok (.iload_n 1, 1) := by decide +kernel
theorem dX2_init_97 : decode cX2_init 97 = .ok (.new 17, 3) := by decide +kernel
theorem dX2_init_100 : decode cX2_init 100 = .ok (.dup, 1) := by decide +kernel
theorem dX2_init_101 : decode cX2_init 101 = .ok (.invokespecial 41, 3) := by decide +kernel
theorem dX2_init_104 : decode cX2_init 104 = .ok (.aastore, 1) := by decide +kernel
theorem dX2_init_105 : decode cX2_init 105 = .ok (.iinc 1 1, 3) := by decide +kernel
theorem dX2_init_108 : decode cX2_init 108 = .ok (.goto (-22), 3) := by decide +kernel
theorem dX2_init_111 : decode cX2_init 111 = .ok (.aload_n 0, 1) := by decide +kernel
theorem dX2_init_112 : decode cX2_init 112 = .ok (.iconst 0, 1) := by decide +kernel
theorem dX2_init_113 : decode cX2_init 113 = .ok (.bipush 24, 2) := by decide +kernel
theorem dX2_init_115 : decode cX2_init 115 = .ok (.bipush 100, 2) := by decide +kernel
theorem dX2_init_117 : decode cX2_init 117 = .ok (.invokevirtual 42, 3) := by decide +kernel
theorem dX2_init_120 : decode cX2_init 120 = .ok (.aload_n 0, 1) := by decide +kernel
theorem dX2_init_121 : decode cX2_init 121 = .ok (.iconst 0, 1) := by decide +kernel
theorem dX2_init_122 : decode cX2_init 122 = .ok (.bipush 100, 2) := by decide +kernel
theorem dX2_init_124 : decode cX2_init 124 = .ok (.iconst 0, 1) := by decide +kernel
theorem dX2_init_125 : decode cX2_init 125 = .ok (.invokevirtual 46, 3) := by decide +kernel
theorem dX2_init_128 : decode cX2_init 128 = .ok (.return_, 1) := by decide +kernel
set_option maxRecDepth 20000 in
theorem ggX2_copyFrom_X0_begin : GoodIn wsX2_copyFrom wsX0_begin := goodIn_r _ [18, 19, 20, 21, 53, 54, 55] (by decide +kernel) (by decide +kernel)
set_option maxRecDepth 20000 in
theorem gX2_copyFrom_X0_begin : GoodIn wsX2_copyFrom (wsV RX2 61 RX0 yX0_begin wsX0_begin) := goodIn_app (goodIn_of _ (by decide +kernel)) ggX2_copyFrom_X0_begin
set_option maxRecDepth 20000 in
theorem ggX2_copyFrom_X4_copyFrom : GoodIn wsX2_copyFrom wsX4_copyFrom := goodIn_r _ [26, 27, 28, 29, 30, 31, 32, 33, 34, 35, 36, 37, 38, 39, 40, 41, 25, 42, 56, 57, 58, 59, 60, 61, 62, 63, 64, 65, 66, 67] (by decide +kernel) (by decide +kernel)
set_option maxRecDepth 20000 in
theorem gX2_copyFrom_X4_copyFrom : GoodIn wsX2_copyFrom (wsV RX2 67 RX4 yX4_copyFrom wsX4_copyFrom) := goodIn_app (goodIn_of _ (by decide +kernel)) ggX2_copyFrom_X4_copyFrom
theorem dX2_copyFrom_0 : decode cX2_copyFrom 0 = .ok (.aload_n 0, 1) := by decide +kernel
theorem dX2_copyFrom_1 : decode cX2_copyFrom 1 = .ok (.aload_n 1, 1) := by decide +kernel
theorem dX2_copyFrom_2 : decode cX2_copyFrom 2 = .ok (.getfield 49, 3) := by decide +kernel
theorem dX2_copyFrom_5 : decode cX2_copyFrom 5 = .ok (.putfield 49, 3) := by decide +kernel
theorem dX2_copyFrom_8 : decode cX2_copyFrom 8 = .ok (.iconst 0, 1) := by decide +kernel
theorem dX2_copyFrom_9 : decode cX2_copyFrom 9 = .ok (.istore_n 2, 1) := by decide +kernel
theorem dX2_copyFrom_10 : decode cX2_copyFrom 10 = .ok (.iload_n 2, 1) := by decide +kernel
theorem dX2_copyFrom_11 : decode cX2_copyFrom 11 = .ok (.aload_n 0, 1) := by decide +kernel
theorem dX2_copyFrom_12 : decode cX2_copyFrom 12 = .ok (.getfield 49, 3) := by decide +kernel
theorem dX2_copyFrom_15 : decode cX2_copyFrom 15 = .ok (.if_icmp .ge 37, 3) := by decide +kernel
theorem dX2_copyFrom_18 : decode cX2_copyFrom 18 = .ok (.aload_n 1, 1) := by decide +kernel
theorem dX2_copyFrom_19 : decode cX2_copyFrom 19 = .ok (.getfield 11, 3) := by decide +kernel
theorem dX2_copyFrom_22 : decode cX2_copyFrom 22 = .ok (.iload_n 2, 1) := by decide +kernel
theorem dX2_copyFrom_23 : decode cX2_copyFrom 23 = .ok (.aaload, 1) := by decide +kernel
theorem dX2_copyFrom_24 : decode cX2_copyFrom 24 = .ok (.astore_n 3, 1) := by decide +kernel
theorem dX2_copyFrom_25 : decode cX2_copyFrom 25 = .ok (.aload_n 0, 1) := by decide +kernel
theorem dX2_copyFrom_26 : decode cX2_copyFrom 26 = .ok (.getfield 11, 3) := by decide +kernel
theorem dX2_copyFrom_29 : decode cX2_copyFrom 29 = .ok (.iload_n 2, 1) := by decide +kernel
theorem dX2_copyFrom_30 : decode cX2_copyFrom 30 = .ok (.aaload, 1) := by decide +kernel
theorem dX2_copyFrom_31 : decode cX2_copyFrom 31 = .ok (.aload_n 3, 1) := by decide +kernel
theorem dX2_copyFrom_32 : decode cX2_copyFrom 32 = .ok (.getfield 52, 3) := by decide +kernel
theorem dX2_copyFrom_35 : decode cX2_copyFrom 35 = .ok (.aload_n 3, 1) := by decide +kernel
theorem dX2_copyFrom_36 : decode cX2_copyFrom 36 = .ok (.getfield 55, 3) := by decide +kernel
theorem dX2_copyFrom_39 : decode cX2_copyFrom 39 = .ok (.aload_n 3, 1) := by decide +kernel
theorem dX2_copyFrom_40 : decode cX2_copyFrom 40 = .ok (.getfield 58, 3) := by decide +kernel
theorem dX2_copyFrom_43 : decode cX2_copyFrom 43 = .ok (.invokevirtual 61, 3) := by decide +kernel
theorem dX2_copyFrom_46 : decode cX2_copyFrom 46 = .ok (.iinc 2 1, 3) := by decide +kernel
theorem dX2_copyFrom_49 : decode cX2_copyFrom 49 = .ok (.goto (-39), 3) := by decide +kernel
theorem dX2_copyFrom_52 : decode cX2_copyFrom 52 = .ok (.aload_n 0, 1) := by decide +kernel
theorem dX2_copyFrom_53 : decode cX2_copyFrom 53 = .ok (.aload_n 1, 1) := by decide +kernel
theorem dX2_copyFrom_54 : decode cX2_copyFrom 54 = .ok (.getfield 64, 3) := by decide +kernel
theorem dX2_copyFrom_57 : decode cX2_copyFrom 57 = .ok (.putfield 64, 3) := by decide +kernel
theorem dX2_copyFrom_60 : decode cX2_copyFrom 60 = .ok (.iconst 0, 1) := by decide +kernel
theorem dX2_copyFrom_61 : decode cX2_copyFrom 61 = .ok (.istore_n 2, 1) := by decide +kernel
theorem dX2_copyFrom_62 : decode cX2_copyFrom 62 = .ok (.iload_n 2, 1) := by decide +kernel
theorem dX2_copyFrom_63 : decode cX2_copyFrom 63 = .ok (.aload_n 0, 1) := by decide +kernel
theorem dX2_copyFrom_64 : decode cX2_copyFrom 64 = .ok (.getfield 64, 3) := by decide +kernel
theorem dX2_copyFrom_67 : decode cX2_copyFrom 67 = .ok (.if_icmp .ge 36, 3) := by decide +kernel
theorem dX2_copyFrom_70 : decode cX2_copyFrom 70 = .ok (.aload_n 0, 1) := by decide +kernel
theorem dX2_copyFrom_71 : decode cX2_copyFrom 71 = .ok (.getfield 19, 3) := by decide +kernel
theorem dX2_copyFrom_74 : decode cX2_copyFrom 74 = .ok (.iload_n 2, 1) := by decide +kernel
theorem dX2_copyFrom_75 : decode cX2_copyFrom 75 = .ok (.aaload, 1) := by decide +kernel
theorem dX2_copyFrom_76 : decode cX2_copyFrom 76 = .ok (.aload_n 1, 1) := by decide +kernel
theorem dX2_copyFrom_77 : decode cX2_copyFrom 77 = .ok (.getfield 19, 3) := by decide +kernel
theorem dX2_copyFrom_80 : decode cX2_copyFrom 80 = .ok (.iload_n 2, 1) := by decide +kernel
theorem dX2_copyFrom_81 : decode cX2_copyFrom 81 = .ok (.aaload, 1) := by decide +kernel
theorem dX2_copyFrom_82 : decode cX2_copyFrom 82 = .ok (.invokevirtual 67, 3) := by decide +kernel
theorem dX2_copyFrom_85 : decode cX2_copyFrom 85 = .ok (.aload_n 0, 1) := by decide +kernel
theorem dX2_copyFrom_86 : decode cX2_copyFrom 86 = .ok (.getfield 23, 3) := by decide +kernel
theorem dX2_copyFrom_89 : decode cX2_copyFrom 89 = .ok (.iload_n 2, 1) := by decide +kernel
theorem dX2_copyFrom_90 : decode cX2_copyFrom 90 = .ok (.aload_n 1, 1) := by decide +kernel
theorem dX2_copyFrom_91 : decode cX2_copyFrom 91 = .ok (.getfield 23, 3) := by decide +kernel
theorem dX2_copyFrom_94 : decode cX2_copyFrom 94 = .ok (.iload_n 2, 1) := by decide +kernel
theorem dX2_copyFrom_95 : decode cX2_copyFrom 95 = .ok (.iaload, 1) := by decide +kernel
theorem dX2_copyFrom_96 : decode cX2_copyFrom 96 = .ok (.iastore, 1) := by decide +kernel
theorem dX2_copyFrom_97 : decode cX2_copyFrom 97 = .ok (.iinc 2 1, 3) := by decide +kernel
theorem dX2_copyFrom_100 : decode cX2_copyFrom 100 = .ok (.goto (-38), 3) := by decide +kernel
theorem dX2_copyFrom_103 : decode cX2_copyFrom 103 = .ok (.iconst 0, 1) := by decide +kernel
theorem dX2_copyFrom_104 : decode cX2_copyFrom 104 = .ok (.istore_n 2, 1) := by decide +kernel
theorem dX2_copyFrom_105 : decode cX2_copyFrom 105 = .ok (.iload_n 2, 1) := by decide +kernel
theorem dX2_copyFrom_106 : decode cX2_copyFrom 106 = .ok (.bipush 24, 2) := by decide +kernel
theorem dX2_copyFrom_108 : decode cX2_copyFrom 108 = .ok (.if_icmp .ge 21, 3) := by decide +kernel
theorem dX2_copyFrom_111 : decode cX2_copyFrom 111 = .ok (.aload_n 0, 1) := by decide +kernel
theorem dX2_copyFrom_112 : decode cX2_copyFrom 112 = .ok (.getfield 27, 3) := by decide +kernel
theorem dX2_copyFrom_115 : decode cX2_copyFrom 115 = .ok (.iload_n 2, 1) := by decide +kernel
theorem dX2_copyFrom_116 : decode cX2_copyFrom 116 = .ok (.aload_n 1, 1) := by decide +kernel
theorem dX2_copyFrom_117 : decode cX2_copyFrom 117 = .ok (.getfield 27, 3) := by decide +kernel
theorem dX2_copyFrom_120 : decode cX2_copyFrom 120 = .ok (.iload_n 2, 1) := by decide +kernel
theorem dX2_copyFrom_121 : decode cX2_copyFrom 121 = .ok (.iaload, 1) := by decide +kernel
theorem dX2_copyFrom_122 : decode cX2_copyFrom 122 = .ok (.iastore, 1) := by decide +kernel
theorem dX2_copyFrom_123 : decode cX2_copyFrom 123 = .ok (.iinc 2 1, 3) := by decide +kernel
theorem dX2_copyFrom_126 : decode cX2_copyFrom 126 = .ok (.goto (-21), 3) := by decide +kernel
theorem dX2_copyFrom_129 : decode cX2_copyFrom 129 = .ok (.iconst 0, 1) := by decide +kernel
theorem dX2_copyFrom_130 : decode cX2_copyFrom 130 = .ok (.istore_n 2, 1) := by decide +kernel
theorem dX2_copyFrom_131 : decode cX2_copyFrom 131 = .ok (.iload_n 2, 1) := by decide +kernel
theorem dX2_copyFrom_132 : decode cX2_copyFrom 132 = .ok (.bipush 7, 2) := by decide +kernel
theorem dX2_copyFrom_134 : decode cX2_copyFrom 134 = .ok (.if_icmp .ge 21, 3) := by decide +kernel
theorem dX2_copyFrom_137 : decode cX2_copyFrom 137 = .ok (.aload_n 0, 1) := by decide +kernel
theorem dX2_copyFrom_138 : decode cX2_copyFrom 138 = .ok (.getfield 30, 3) := by decide +kernel
theorem dX2_copyFrom_141 : decode cX2_copyFrom 141 = .ok (.iload_n 2, 1) := by decide +kernel
theorem dX2_copyFrom_142 : decode cX2_copyFrom 142 = .ok (.aload_n 1, 1) := by decide +kernel
theorem dX2_copyFrom_143 : decode cX2_copyFrom 143 = .ok (.getfield 30, 3) := by decide +kernel
theorem dX2_copyFrom_146 : decode cX2_copyFrom 146 = .ok (.iload_n 2, 1) := by decide +kernel
theorem dX2_copyFrom_147 : decode cX2_copyFrom 147 = .ok (.iaload, 1) := by decide +kernel
theorem dX2_copyFrom_148 : decode cX2_copyFrom 148 = .ok (.iastore, 1) := by decide +kernel
theorem dX2_copyFrom_149 : decode cX2_copyFrom 149 = .ok (.iinc 2 1, 3) := by decide +kernel
theorem dX2_copyFrom_152 : decode cX2_copyFrom 152 = .ok (.goto (-21), 3) := by decide +kernel
theorem dX2_copyFrom_155 : decode cX2_copyFrom 155 = .ok (.aload_n 0, 1) := by decide +kernel
theorem dX2_copyFrom_156 : decode cX2_copyFrom 156 = .ok (.aload_n 1, 1) := by decide +kernel
theorem dX2_copyFrom_157 : decode cX2_copyFrom 157 = .ok (.getfield 33, 3) := by decide +kernel
theorem dX2_copyFrom_160 : decode cX2_copyFrom 160 = .ok (.putfield 33, 3) := by decide +kernel
theorem dX2_copyFrom_163 : decode cX2_copyFrom 163 = .ok (.aload_n 0, 1) := by decide +kernel
theorem dX2_copyFrom_164 : decode cX2_copyFrom 164 = .ok (.aload_n 1, 1) := by decide +kernel
theorem dX2_copyFrom_165 : decode cX2_copyFrom 165 = .ok (.getfield 37, 3) := by decide +kernel
theorem dX2_copyFrom_168 : decode cX2_copyFrom 168 = .ok (.putfield 37, 3) := by decide +kernel
theorem dX2_copyFrom_171 : decode cX2_copyFrom 171 = .ok (.aload_n 0, 1) := by decide +kernel
theorem dX2_copyFrom_172 : decode cX2_copyFrom 172 = .ok (.aload_n 1, 1) := by decide +kernel
theorem dX2_copyFrom_173 : decode cX2_copyFrom 173 = .ok (.getfield 71, 3) := by decide +kernel
theorem dX2_copyFrom_176 : decode cX2_copyFrom 176 = .ok (.putfield 71, 3) := by decide +kernel
theorem dX2_copyFrom_179 : decode cX2_copyFrom 179 = .ok (.return_, 1) := by decide +kernel
theorem dX2_hasDitch_0 : decode cX2_hasDitch 0 = .ok (.iload_n 1, 1) := by decide +kernel
theorem dX2_hasDitch_1 : decode cX2_hasDitch 1 = .ok (.ifCond .lt 15, 3) := by decide +kernel
theorem dX2_hasDitch_4 : decode cX2_hasDitch 4 = .ok (.iload_n 1, 1) := by decide +kernel
theorem dX2_hasDitch_5 : decode cX2_hasDitch 5 = .ok (.aload_n 0, 1) := by decide +kernel
theorem dX2_hasDitch_6 : decode cX2_hasDitch 6 = .ok (.getfield 49, 3) := by decide +kernel
theorem dX2_hasDitch_9 : decode cX2_hasDitch 9 = .ok (.if_icmp .ge 7, 3) := by decide +kernel
theorem dX2_hasDitch_12 : decode cX2_hasDitch 12 = .ok (.iconst 1, 1) := by decide +kernel
theorem dX2_hasDitch_13 : decode cX2_hasDitch 13 = .ok (.goto 4, 3) := by decide +kernel
theorem dX2_hasDitch_16 : decode cX2_hasDitch 16 = .ok (.iconst 0, 1) := by decide +kernel
theorem dX2_hasDitch_17 : decode cX2_hasDitch 17 = .ok (.ireturn, 1) := by decide +kernel
theorem dX2_hasUser_0 : decode cX2_hasUser 0 = .ok (.iload_n 1, 1) := by decide +kernel
theorem dX2_hasUser_1 : decode cX2_hasUser 1 = .ok (.ifCond .lt 15, 3) := by decide +kernel
theorem dX2_hasUser_4 : decode cX2_hasUser 4 = .ok (.iload_n 1, 1) := by decide +kernel
theorem dX2_hasUser_5 : decode cX2_hasUser 5 = .ok (.aload_n 0, 1) := by decide +kernel
theorem dX2_hasUser_6 : decode cX2_hasUser 6 = .ok (.getfield 64, 3) := by decide +kernel
theorem dX2_hasUser_9 : decode cX2_hasUser 9 = .ok (.if_icmp .ge 7, 3) := by decide +kernel
theorem dX2_hasUser_12 : decode cX2_hasUser 12 = .ok (.iconst 1, 1) := by decide +kernel
theorem dX2_hasUser_13 : decode cX2_hasUser 13 = .ok (.goto 4, 3) := by decide +kernel
theorem dX2_hasUser_16 : decode cX2_hasUser 16 = .ok (.iconst 0, 1) := by decide +kernel
theorem dX2_hasUser_17 : decode cX2_hasUser 17 = .ok (.ireturn, 1) := by decide +kernel
theorem dX2_hasRoomForDitch_0 : decode cX2_hasRoomForDitch 0 = .ok (.aload_n 0, 1) := by decide +kernel
theorem dX2_hasRoomForDitch_1 : decode cX2_hasRoomForDitch 1 = .ok (.getfield 49, 3) := by decide +kernel
theorem dX2_hasRoomForDitch_4 : decode cX2_hasRoomForDitch 4 = .ok (.bipush 10, 2) := by decide +kernel
theorem dX2_hasRoomForDitch_6 : decode cX2_hasRoomForDitch 6 = .ok (.if_icmp .ge 7, 3) := by decide +kernel
theorem dX2_hasRoomForDitch_9 : decode cX2_hasRoomForDitch 9 = .ok (.iconst 1, 1) := by decide +kernel
theorem dX2_hasRoomForDitch_10 : decode cX2_hasRoomForDitch 10 = .ok (.goto 4, 3) := by decide +kernel
theorem dX2_hasRoomForDitch_13 : decode cX2_hasRoomForDitch 13 = .ok (.iconst 0, 1) := by decide +kernel
theorem dX2_hasRoomForDitch_14 : decode cX2_hasRoomForDitch 14 = .ok (.ireturn, 1) := by decide +kernel
theorem dX2_hasRoomForUser_0 : decode cX2_hasRoomForUser 0 = .ok (.aload_n 0, 1) := by decide +kernel
theorem dX2_hasRoomForUser_1 : decode cX2_hasRoomForUser 1 = .ok (.getfield 64, 3) := by decide +kernel
theorem dX2_hasRoomForUser_4 : decode cX2_hasRoomForUser 4 = .ok (.bipush 12, 2) := by decide +kernel
theorem dX2_hasRoomForUser_6 : decode cX2_hasRoomForUser 6 = .ok (.if_icmp .ge 7, 3) := by decide +kernel
theorem dX2_hasRoomForUser_9 : decode cX2_hasRoomForUser 9 = .ok (.iconst 1, 1) := by decide +kernel
theorem dX2_hasRoomForUser_10 : decode cX2_hasRoomForUser 10 = .ok (.goto 4, 3) := by decide +kernel
theorem dX2_hasRoomForUser_13 : decode cX2_hasRoomForUser 13 = .ok (.iconst 0, 1) := by decide +kernel
theorem dX2_hasRoomForUser_14 : decode cX2_hasRoomForUser 14 = .ok (.ireturn, 1) := by decide +kernel
set_option maxRecDepth 20000 in
theorem ggX2_putDitch_X2_hasRoomForDitch : GoodIn wsX2_putDitch wsX2_hasRoomForDitch := goodIn_r _ [7, 2, 16, 17, 18, 19, 20, 21, 22, 23, 24, 25] (by decide +kernel) (by decide +kernel)
set_option maxRecDepth 20000 in
theorem gX2_putDitch_X2_hasRoomForDitch : GoodIn wsX2_putDitch (wsV RX2 74 RX2 yX2_hasRoomForDitch wsX2_hasRoomForDitch) := goodIn_app (goodIn_of _ (by decide +kernel)) ggX2_putDitch_X2_hasRoomForDitch
set_option maxRecDepth 20000 in
theorem ggX2_putDitch_X0_begin : GoodIn wsX2_putDitch wsX0_begin := goodIn_r _ [12, 13, 14, 15, 26, 27, 28] (by decide +kernel) (by decide +kernel)
set_option maxRecDepth 20000 in
theorem gX2_putDitch_X0_begin : GoodIn wsX2_putDitch (wsV RX2 61 RX0 yX0_begin wsX0_begin) := goodIn_app (goodIn_of _ (by decide +kernel)) ggX2_putDitch_X0_begin
theorem dX2_putDitch_0 : decode cX2_putDitch 0 = .ok (.aload_n 0, 1) := by decide +kernel
theorem dX2_putDitch_1 : decode cX2_putDitch 1 = .ok (.invokevirtual 74, 3) := by decide +kernel
theorem dX2_putDitch_4 : decode cX2_putDitch 4 = .ok (.ifCond .ne 4, 3) := by decide +kernel
theorem dX2_putDitch_7 : decode cX2_putDitch 7 = .ok (.return_, 1) := by decide +kernel
theorem dX2_putDitch_8 : decode cX2_putDitch 8 = .ok (.aload_n 0, 1) := by decide +kernel
theorem dX2_putDitch_9 : decode cX2_putDitch 9 = .ok (.getfield 11, 3) := by decide +kernel
theorem dX2_putDitch_12 : decode cX2_putDitch 12 = .ok (.aload_n 0, 1) := by decide +kernel
theorem dX2_putDitch_13 : decode cX2_putDitch 13 = .ok (.getfield 49, 3) := by decide +kernel
theorem dX2_putDitch_16 : decode cX2_putDitch 16 = .ok (.aaload, 1) := by decide +kernel
theorem dX2_putDitch_17 : decode cX2_putDitch 17 = .ok (.iload_n 1, 1) := by decide +kernel
theorem dX2_putDitch_18 : decode cX2_putDitch 18 = .ok (.iload_n 2, 1) := by decide +kernel
theorem dX2_putDitch_19 : decode cX2_putDitch 19 = .ok (.iload_n 3, 1) := by decide +kernel
theorem dX2_putDitch_20 : decode cX2_putDitch 20 = .ok (.invokevirtual 61, 3) := by decide +kernel
theorem dX2_putDitch_23 : decode cX2_putDitch 23 = .ok (.aload_n 0, 1) := by decide +kernel
theorem dX2_putDitch_24 : decode cX2_putDitch 24 = .ok (.dup, 1) := by decide +kernel
theorem dX2_putDitch_25 : decode cX2_putDitch 25 = .ok (.getfield 49, 3) := by decide +kernel
theorem dX2_putDitch_28 : decode cX2_putDitch 28 = .ok (.iconst 1, 1) := by decide +kernel
theorem dX2_putDitch_29 : decode cX2_putDitch 29 = .ok (.iadd, 1) := by decide +kernel
theorem dX2_putDitch_30 : decode cX2_putDitch 30 = .ok (.putfield 49, 3) := by decide +kernel
theorem dX2_putDitch_33 : decode cX2_putDitch 33 = .ok (.return_, 1) := by decide +kernel
set_option maxRecDepth 20000 in
theorem ggX2_putUser_X2_hasRoomForUser : GoodIn wsX2_putUser wsX2_hasRoomForUser := goodIn_r _ [9, 1, 27, 28, 29, 30, 31, 32, 33, 34, 35, 36] (by decide +kernel) (by decide +kernel)
set_option maxRecDepth 20000 in
theorem gX2_putUser_X2_hasRoomForUser : GoodIn wsX2_putUser (wsV RX2 78 RX2 yX2_hasRoomForUser wsX2_hasRoomForUser) := goodIn_app (goodIn_of _ (by decide +kernel)) ggX2_putUser_X2_hasRoomForUser
set_option maxRecDepth 20000 in
theorem ggX2_putUser_X4_begin : GoodIn wsX2_putUser wsX4_begin := goodIn_r _ [14, 15, 16, 17, 18, 19, 20, 21, 22, 23, 24, 25, 26, 37, 38, 39, 40, 41, 42, 43, 44, 45, 46, 47, 48] (by decide +kernel) (by decide +kernel)
set_option maxRecDepth 20000 in
theorem gX2_putUser_X4_begin : GoodIn wsX2_putUser (wsV RX2 84 RX4 yX4_begin wsX4_begin) := goodIn_app (goodIn_of _ (by decide +kernel)) ggX2_putUser_X4_begin
theorem dX2_putUser_0 : decode cX2_putUser 0 = .ok (.aload_n 0, 1) := by decide +kernel
theorem dX2_putUser_1 : decode cX2_putUser 1 = .ok (.invokevirtual 78, 3) := by decide +kernel
theorem dX2_putUser_4 : decode cX2_putUser 4 = .ok (.ifCond .ne 4, 3) := by decide +kernel
theorem dX2_putUser_7 : decode cX2_putUser 7 = .ok (.return_, 1) := by decide +kernel
theorem dX2_putUser_8 : decode cX2_putUser 8 = .ok (.aload_n 0, 1) := by decide +kernel
theorem dX2_putUser_9 : decode cX2_putUser 9 = .ok (.getfield 64, 3) := by decide +kernel
theorem dX2_putUser_12 : decode cX2_putUser 12 = .ok (.istore 4, 2) := by decide +kernel
theorem dX2_putUser_14 : decode cX2_putUser 14 = .ok (.iload 4, 2) := by decide +kernel
theorem dX2_putUser_16 : decode cX2_putUser 16 = .ok (.ifCond .le 46, 3) := by decide +kernel
theorem dX2_putUser_19 : decode cX2_putUser 19 = .ok (.aload_n 0, 1) := by decide +kernel
theorem dX2_putUser_20 : decode cX2_putUser 20 = .ok (.getfield 19, 3) := by decide +kernel
theorem dX2_putUser_23 : decode cX2_putUser 23 = .ok (.aload_n 0, 1) := by decide +kernel
theorem dX2_putUser_24 : decode cX2_putUser 24 = .ok (.getfield 23, 3) := by decide +kernel
theorem dX2_putUser_27 : decode cX2_putUser 27 = .ok (.iload 4, 2) := by decide +kernel
theorem dX2_putUser_29 : decode cX2_putUser 29 = .ok (.iconst 1, 1) := by decide +kernel
theorem dX2_putUser_30 : decode cX2_putUser 30 = .ok (.isub, 1) := by decide +kernel
theorem dX2_putUser_31 : decode cX2_putUser 31 = .ok (.iaload, 1) := by decide +kernel
theorem dX2_putUser_32 : decode cX2_putUser 32 = .ok (.aaload, 1) := by decide +kernel
theorem dX2_putUser_33 : decode cX2_putUser 33 = .ok (.getfield 81, 3) := by decide +kernel
theorem dX2_putUser_36 : decode cX2_putUser 36 = .ok (.iload_n 2, 1) := by decide +kernel
theorem dX2_putUser_37 : decode cX2_putUser 37 = .ok (.if_icmp .le 25, 3) := by decide +kernel
theorem dX2_putUser_40 : decode cX2_putUser 40 = .ok (.aload_n 0, 1) := by decide +kernel
theorem dX2_putUser_41 : decode cX2_putUser 41 = .ok (.getfield 23, 3) := by decide +kernel
theorem dX2_putUser_44 : decode cX2_putUser 44 = .ok (.iload 4, 2) := by decide +kernel
theorem dX2_putUser_46 : decode cX2_putUser 46 = .ok (.aload_n 0, 1) := by decide +kernel
theorem dX2_putUser_47 : decode cX2_putUser 47 = .ok (.getfield 23, 3) := by decide +kernel
theorem dX2_putUser_50 : decode cX2_putUser 50 = .ok (.iload 4, 2) := by decide +kernel
theorem dX2_putUser_52 : decode cX2_putUser 52 = .ok (.iconst 1, 1) := by decide +kernel
theorem dX2_putUser_53 : decode cX2_putUser 53 = .ok (.isub, 1) := by decide +kernel
theorem dX2_putUser_54 : decode cX2_putUser 54 = .ok (.iaload, 1) := by decide +kernel
theorem dX2_putUser_55 : decode cX2_putUser 55 = .ok (.iastore, 1) := by decide +kernel
theorem dX2_putUser_56 : decode cX2_putUser 56 = .ok (.iinc 4 (-1), 3) := by decide +kernel
theorem dX2_putUser_59 : decode cX2_putUser 59 = .ok (.goto (-45), 3) := by decide +kernel
theorem dX2_putUser_62 : decode cX2_putUser 62 = .ok (.aload_n 0, 1) := by decide +kernel
theorem dX2_putUser_63 : decode cX2_putUser 63 = .ok (.getfield 23, 3) := by decide +kernel
theorem dX2_putUser_66 : decode cX2_putUser 66 = .ok (.iload 4, 2) := by decide +kernel
theorem dX2_putUser_68 : decode cX2_putUser 68 = .ok (.aload_n 0, 1) := by decide +kernel
theorem dX2_putUser_69 : decode cX2_putUser 69 = .ok (.getfield 64, 3) := by decide +kernel
theorem dX2_putUser_72 : decode cX2_putUser 72 = .ok (.iastore, 1) := by decide +kernel
theorem dX2_putUser_73 : decode cX2_putUser 73 = .ok (.aload_n 0, 1) := by decide +kernel
theorem dX2_putUser_74 : decode cX2_putUser 74 = .ok (.getfield 19, 3) := by decide +kernel
theorem dX2_putUser_77 : decode cX2_putUser 77 = .ok (.aload_n 0, 1) := by decide +kernel
theorem dX2_putUser_78 : decode cX2_putUser 78 = .ok (.getfield 64, 3) := by decide +kernel
theorem dX2_putUser_81 : decode cX2_putUser 81 = .ok (.aaload, 1) := by decide +kernel
theorem dX2_putUser_82 : decode cX2_putUser 82 = .ok (.iload_n 1, 1) := by decide +kernel
theorem dX2_putUser_83 : decode cX2_putUser 83 = .ok (.iload_n 2, 1) := by decide +kernel
theorem dX2_putUser_84 : decode cX2_putUser 84 = .ok (.iload_n 3, 1) := by decide +kernel
theorem dX2_putUser_85 : decode cX2_putUser 85 = .ok (.invokevirtual 84, 3) := by decide +kernel
theorem dX2_putUser_88 : decode cX2_putUser 88 = .ok (.aload_n 0, 1) := by decide +kernel
theorem dX2_putUser_89 : decode cX2_putUser 89 = .ok (.dup, 1) := by decide +kernel
theorem dX2_putUser_90 : decode cX2_putUser 90 = .ok (.getfield 64, 3) := by decide +kernel
theorem dX2_putUser_93 : decode cX2_putUser 93 = .ok (.iconst 1, 1) := by decide +kernel
theorem dX2_putUser_94 : decode cX2_putUser 94 = .ok (.iadd, 1) := by decide +kernel
theorem dX2_putUser_95 : decode cX2_putUser 95 = .ok (.putfield 64, 3) := by decide +kernel
theorem dX2_putUser_98 : decode cX2_putUser 98 = .ok (.return_, 1) := by decide +kernel
theorem dX2_putSupply_0 : decode cX2_putSupply 0 = .ok (.iload_n 1, 1) := by decide +kernel
theorem dX2_putSupply_1 : decode cX2_putSupply 1 = .ok (.iconst 0, 1) := by decide +kernel
theorem dX2_putSupply_2 : decode cX2_putSupply 2 = .ok (.invokestatic 85, 3) := by decide +kernel
theorem dX2_putSupply_5 : decode cX2_putSupply 5 = .ok (.istore 4, 2) := by decide +kernel
theorem dX2_putSupply_7 : decode cX2_putSupply 7 = .ok (.iload 4, 2) := by decide +kernel
theorem dX2_putSupply_9 : decode cX2_putSupply 9 = .ok (.iload_n 2, 1) := by decide +kernel
theorem dX2_putSupply_10 : decode cX2_putSupply 10 = .ok (.if_icmp .ge 24, 3) := by decide +kernel
theorem dX2_putSupply_13 : decode cX2_putSupply 13 = .ok (.iload 4, 2) := by decide +kernel
theorem dX2_putSupply_15 : decode cX2_putSupply 15 = .ok (.bipush 24, 2) := by decide +kernel
theorem dX2_putSupply_17 : decode cX2_putSupply 17 = .ok (.if_icmp .ge 17, 3) := by decide +kernel
theorem dX2_putSupply_20 : decode cX2_putSupply 20 = .ok (.aload_n 0, 1) := by decide +kernel
theorem dX2_putSupply_21 : decode cX2_putSupply 21 = .ok (.getfield 27, 3) := by decide +kernel
theorem dX2_putSupply_24 : decode cX2_putSupply 24 = .ok (.iload 4, 2) := by decide +kernel
theorem dX2_putSupply_26 : decode cX2_putSupply 26 = .ok (.iload_n 3, 1) := by decide +kernel
theorem dX2_putSupply_27 : decode cX2_putSupply 27 = .ok (.iastore, 1) := by decide +kernel
theorem dX2_putSupply_28 : decode cX2_putSupply 28 = .ok (.iinc 4 1, 3) := by decide +kernel
theorem dX2_putSupply_31 : decode cX2_putSupply 31 = .ok (.goto (-24), 3) := by decide +kernel
theorem dX2_putSupply_34 : decode cX2_putSupply 34 = .ok (.return_, 1) := by decide +kernel
set_option maxRecDepth 20000 in
theorem ggX2_hourOfDay_J9_floorMod_7cf53 : GoodIn wsX2_hourOfDay wsJ9_floorMod_7cf53 := goodIn_r _ [5] (by decide +kernel) (by decide +kernel)
set_option maxRecDepth 20000 in
theorem gX2_hourOfDay_J9_floorMod_7cf53 : GoodIn wsX2_hourOfDay (va_wsS RX2 91 yJ9_floorMod_7cf53 wsJ9_floorMod_7cf53) := goodIn_app (goodIn_of _ (by decide +kernel)) ggX2_hourOfDay_J9_floorMod_7cf53
theorem dX2_hourOfDay_0 : decode cX2_hourOfDay 0 = .ok (.aload_n 0, 1) := by decide +kernel
theorem dX2_hourOfDay_1 : decode cX2_hourOfDay 1 = .ok (.getfield 71, 3) := by decide +kernel
theorem dX2_hourOfDay_4 : decode cX2_hourOfDay 4 = .ok (.bipush 24, 2) := by decide +kernel
theorem dX2_hourOfDay_6 : decode cX2_hourOfDay 6 = .ok (.invokestatic 91, 3) := by decide +kernel
theorem dX2_hourOfDay_9 : decode cX2_hourOfDay 9 = .ok (.ireturn, 1) := by decide +kernel
set_option maxRecDepth 20000 in
theorem ggX2_supplyNow_X2_hourOfDay : GoodIn wsX2_supplyNow wsX2_hourOfDay := goodIn_r _ [6, 7, 8, 9, 10, 11, 12, 13, 14, 15, 16, 17, 18, 19, 20, 21] (by decide +kernel) (by decide +kernel)
set_option maxRecDepth 20000 in
theorem gX2_supplyNow_X2_hourOfDay : GoodIn wsX2_supplyNow (wsV RX2 94 RX2 yX2_hourOfDay wsX2_hourOfDay) := goodIn_app (goodIn_of _ (by decide +kernel)) ggX2_supplyNow_X2_hourOfDay
theorem dX2_supplyNow_0 : decode cX2_supplyNow 0 = .ok (.aload_n 0, 1) := by decide +kernel
theorem dX2_supplyNow_1 : decode cX2_supplyNow 1 = .ok (.getfield 27, 3) := by decide +kernel
theorem dX2_supplyNow_4 : decode cX2_supplyNow 4 = .ok (.aload_n 0, 1) := by decide +kernel
theorem dX2_supplyNow_5 : decode cX2_supplyNow 5 = .ok (.invokevirtual 94, 3) := by decide +kernel
theorem dX2_supplyNow_8 : decode cX2_supplyNow 8 = .ok (.iaload, 1) := by decide +kernel
theorem dX2_supplyNow_9 : decode cX2_supplyNow 9 = .ok (.ireturn, 1) := by decide +kernel
theorem dX2_isYounger_0 : decode cX2_isYounger 0 = .ok (.aload_n 0, 1) := by decide +kernel
theorem dX2_isYounger_1 : decode cX2_isYounger 1 = .ok (.getfield 19, 3) := by decide +kernel
theorem dX2_isYounger_4 : decode cX2_isYounger 4 = .ok (.iload_n 1, 1) := by decide +kernel
theorem dX2_isYounger_5 : decode cX2_isYounger 5 = .ok (.aaload, 1) := by decide +kernel
theorem dX2_isYounger_6 : decode cX2_isYounger 6 = .ok (.getfield 81, 3) := by decide +kernel
theorem dX2_isYounger_9 : decode cX2_isYounger 9 = .ok (.istore_n 3, 1) := by decide +kernel
theorem dX2_isYounger_10 : decode cX2_isYounger 10 = .ok (.aload_n 0, 1) := by decide +kernel
theorem dX2_isYounger_11 : decode cX2_isYounger 11 = .ok (.getfield 19, 3) := by decide +kernel
theorem dX2_isYounger_14 : decode cX2_isYounger 14 = .ok (.iload_n 2, 1) := by decide +kernel
theorem dX2_isYounger_15 : decode cX2_isYounger 15 = .ok (.aaload, 1) := by decide +kernel
theorem dX2_isYounger_16 : decode cX2_isYounger 16 = .ok (.getfield 81, 3) := by decide +kernel
theorem dX2_isYounger_19 : decode cX2_isYounger 19 = .ok (.istore 4, 2) := by decide +kernel
theorem dX2_isYounger_21 : decode cX2_isYounger 21 = .ok (.iload_n 3, 1) := by decide +kernel
theorem dX2_isYounger_22 : decode cX2_isYounger 22 = .ok (.iload 4, 2) := by decide +kernel
theorem dX2_isYounger_24 : decode cX2_isYounger 24 = .ok (.if_icmp .gt 14, 3) := by decide +kernel
theorem dX2_isYounger_27 : decode cX2_isYounger 27 = .ok (.iload_n 3, 1) := by decide +kernel
theorem dX2_isYounger_28 : decode cX2_isYounger 28 = .ok (.iload 4, 2) := by decide +kernel
theorem dX2_isYounger_30 : decode cX2_isYounger 30 = .ok (.if_icmp .ne 12, 3) := by decide +kernel
theorem dX2_isYounger_33 : decode cX2_isYounger 33 = .ok (.iload_n 1, 1) := by decide +kernel
theorem dX2_isYounger_34 : decode cX2_isYounger 34 = .ok (.iload_n 2, 1) := by decide +kernel
theorem dX2_isYounger_35 : decode cX2_isYounger 35 = .ok (.if_icmp .le 7, 3) := by decide +kernel
theorem dX2_isYounger_38 : decode cX2_isYounger 38 = .ok (.iconst 1, 1) := by decide +kernel
theorem dX2_isYounger_39 : decode cX2_isYounger 39 = .ok (.goto 4, 3) := by decide +kernel
theorem dX2_isYounger_42 : decode cX2_isYounger 42 = .ok (.iconst 0, 1) := by decide +kernel
theorem dX2_isYounger_43 : decode cX2_isYounger 43 = .ok (.ireturn, 1) := by decide +kernel
set_option maxRecDepth 20000 in
theorem ggX2_userInTurn_J9_floorMod_7cf53 : GoodIn wsX2_userInTurn wsJ9_floorMod_7cf53 := goodIn_r _ [9] (by decide +kernel) (by decide +kernel)
set_option maxRecDepth 20000 in
theorem gX2_userInTurn_J9_floorMod_7cf53 : GoodIn wsX2_userInTurn (va_wsS RX2 91 yJ9_floorMod_7cf53 wsJ9_floorMod_7cf53) := goodIn_app (goodIn_of _ (by decide +kernel)) ggX2_userInTurn_J9_floorMod_7cf53
theorem dX2_userInTurn_0 : decode cX2_userInTurn 0 = .ok (.iconst 0, 1) := by decide +kernel
theorem dX2_userInTurn_1 : decode cX2_userInTurn 1 = .ok (.istore_n 1, 1) := by decide +kernel
theorem dX2_userInTurn_2 : decode cX2_userInTurn 2 = .ok (.iconst 0, 1) := by decide +kernel
theorem dX2_userInTurn_3 : decode cX2_userInTurn 3 = .ok (.istore_n 2, 1) := by decide +kernel
theorem dX2_userInTurn_4 : decode cX2_userInTurn 4 = .ok (.iload_n 2, 1) := by decide +kernel
theorem dX2_userInTurn_5 : decode cX2_userInTurn 5 = .ok (.aload_n 0, 1) := by decide +kernel
theorem dX2_userInTurn_6 : decode cX2_userInTurn 6 = .ok (.getfield 64, 3) := by decide +kernel
theorem dX2_userInTurn_9 : decode cX2_userInTurn 9 = .ok (.if_icmp .ge 21, 3) := by decide +kernel
theorem dX2_userInTurn_12 : decode cX2_userInTurn 12 = .ok (.iload_n 1, 1) := by decide +kernel
theorem dX2_userInTurn_13 : decode cX2_userInTurn 13 = .ok (.aload_n 0, 1) := by decide +kernel
theorem dX2_userInTurn_14 : decode cX2_userInTurn 14 = .ok (.getfield 19, 3) := by decide +kernel
theorem dX2_userInTurn_17 : decode cX2_userInTurn 17 = .ok (.iload_n 2, 1) := by decide +kernel
theorem dX2_userInTurn_18 : decode cX2_userInTurn 18 = .ok (.aaload, 1) := by decide +kernel
theorem dX2_userInTurn_19 : decode cX2_userInTurn 19 = .ok (.getfield 98, 3) := by decide +kernel
theorem dX2_userInTurn_22 : decode cX2_userInTurn 22 = .ok (.iadd, 1) := by decide +kernel
theorem dX2_userInTurn_23 : decode cX2_userInTurn 23 = .ok (.istore_n 1, 1) := by decide +kernel
theorem dX2_userInTurn_24 : decode cX2_userInTurn 24 = .ok (.iinc 2 1, 3) := by decide +kernel
theorem dX2_userInTurn_27 : decode cX2_userInTurn 27 = .ok (.goto (-23), 3) := by decide +kernel
theorem dX2_userInTurn_30 : decode cX2_userInTurn 30 = .ok (.aload_n 0, 1) := by decide +kernel
theorem dX2_userInTurn_31 : decode cX2_userInTurn 31 = .ok (.getfield 33, 3) := by decide +kernel
theorem dX2_userInTurn_34 : decode cX2_userInTurn 34 = .ok (.iconst 1, 1) := by decide +kernel
theorem dX2_userInTurn_35 : decode cX2_userInTurn 35 = .ok (.if_icmp .ne 7, 3) := by decide +kernel
theorem dX2_userInTurn_38 : decode cX2_userInTurn 38 = .ok (.iload_n 1, 1) := by decide +kernel
theorem dX2_userInTurn_39 : decode cX2_userInTurn 39 = .ok (.ifCond .gt 6, 3) := by decide +kernel
theorem dX2_userInTurn_42 : decode cX2_userInTurn 42 = .ok (.bipush (-105), 2) := by decide +kernel
theorem dX2_userInTurn_44 : decode cX2_userInTurn 44 = .ok (.ireturn, 1) := by decide +kernel
theorem dX2_userInTurn_45 : decode cX2_userInTurn 45 = .ok (.aload_n 0, 1) := by decide +kernel
theorem dX2_userInTurn_46 : decode cX2_userInTurn 46 = .ok (.getfield 71, 3) := by decide +kernel
theorem dX2_userInTurn_49 : decode cX2_userInTurn 49 = .ok (.iload_n 1, 1) := by decide +kernel
theorem dX2_userInTurn_50 : decode cX2_userInTurn 50 = .ok (.invokestatic 91, 3) := by decide +kernel
theorem dX2_userInTurn_53 : decode cX2_userInTurn 53 = .ok (.istore_n 2, 1) := by decide +kernel
theorem dX2_userInTurn_54 : decode cX2_userInTurn 54 = .ok (.iconst 0, 1) := by decide +kernel
theorem dX2_userInTurn_55 : decode cX2_userInTurn 55 = .ok (.istore_n 3, 1) := by decide +kernel
theorem dX2_userInTurn_56 : decode cX2_userInTurn 56 = .ok (.iload_n 3, 1) := by decide +kernel
theorem dX2_userInTurn_57 : decode cX2_userInTurn 57 = .ok (.aload_n 0, 1) := by decide +kernel
theorem dX2_userInTurn_58 : decode cX2_userInTurn 58 = .ok (.getfield 64, 3) := by decide +kernel
theorem dX2_userInTurn_61 : decode cX2_userInTurn 61 = .ok (.if_icmp .ge 36, 3) := by decide +kernel
theorem dX2_userInTurn_64 : decode cX2_userInTurn 64 = .ok (.iload_n 2, 1) := by decide +kernel
theorem dX2_userInTurn_65 : decode cX2_userInTurn 65 = .ok (.aload_n 0, 1) := by decide +kernel
theorem dX2_userInTurn_66 : decode cX2_userInTurn 66 = .ok (.getfield 19, 3) := by decide +kernel
theorem dX2_userInTurn_69 : decode cX2_userInTurn 69 = .ok (.iload_n 3, 1) := by decide +kernel
theorem dX2_userInTurn_70 : decode cX2_userInTurn 70 = .ok (.aaload, 1) := by decide +kernel
theorem dX2_userInTurn_71 : decode cX2_userInTurn 71 = .ok (.getfield 98, 3) := by decide +kernel
theorem dX2_userInTurn_74 : decode cX2_userInTurn 74 = .ok (.if_icmp .ge 5, 3) := by decide +kernel
theorem dX2_userInTurn_77 : decode cX2_userInTurn 77 = .ok (.iload_n 3, 1) := by decide +kernel
theorem dX2_userInTurn_78 : decode cX2_userInTurn 78 = .ok (.ireturn, 1) := by decide +kernel
theorem dX2_userInTurn_79 : decode cX2_userInTurn 79 = .ok (.iload_n 2, 1) := by decide +kernel
theorem dX2_userInTurn_80 : decode cX2_userInTurn 80 = .ok (.aload_n 0, 1) := by decide +kernel
theorem dX2_userInTurn_81 : decode cX2_userInTurn 81 = .ok (.getfield 19, 3) := by decide +kernel
theorem dX2_userInTurn_84 : decode cX2_userInTurn 84 = .ok (.iload_n 3, 1) := by decide +kernel
theorem dX2_userInTurn_85 : decode cX2_userInTurn 85 = .ok (.aaload, 1) := by decide +kernel
theorem dX2_userInTurn_86 : decode cX2_userInTurn 86 = .ok (.getfield 98, 3) := by decide +kernel
theorem dX2_userInTurn_89 : decode cX2_userInTurn 89 = .ok (.isub, 1) := by decide +kernel
theorem dX2_userInTurn_90 : decode cX2_userInTurn 90 = .ok (.istore_n 2, 1) := by decide +kernel
theorem dX2_userInTurn_91 : decode cX2_userInTurn 91 = .ok (.iinc 3 1, 3) := by decide +kernel
theorem dX2_userInTurn_94 : decode cX2_userInTurn 94 = .ok (.goto (-38), 3) := by decide +kernel
theorem dX2_userInTurn_97 : decode cX2_userInTurn 97 = .ok (.bipush (-105), 2) := by decide +kernel
theorem dX2_userInTurn_99 : decode cX2_userInTurn 99 = .ok (.ireturn, 1) := by decide +kernel
set_option maxRecDepth 20000 in
theorem ggX2_unitsAsked_X2_hourOfDay : GoodIn wsX2_unitsAsked wsX2_hourOfDay := goodIn_r _ [12, 13, 14, 15, 16, 17, 32, 33, 34, 35, 36, 37, 38, 39, 40, 41] (by decide +kernel) (by decide +kernel)
set_option maxRecDepth 20000 in
theorem gX2_unitsAsked_X2_hourOfDay : GoodIn wsX2_unitsAsked (wsV RX2 94 RX2 yX2_hourOfDay wsX2_hourOfDay) := goodIn_app (goodIn_of _ (by decide +kernel)) ggX2_unitsAsked_X2_hourOfDay
set_option maxRecDepth 20000 in
theorem ggX2_unitsAsked_X4_needAt : GoodIn wsX2_unitsAsked wsX4_needAt := goodIn_r _ [22, 23, 24, 25, 42, 43, 44, 45, 46, 47, 48, 49, 50, 51, 52, 53] (by decide +kernel) (by decide +kernel)
set_option maxRecDepth 20000 in
theorem gX2_unitsAsked_X4_needAt : GoodIn wsX2_unitsAsked (wsV RX2 105 RX4 yX4_needAt wsX4_needAt) := goodIn_app (goodIn_of _ (by decide +kernel)) ggX2_unitsAsked_X4_needAt
set_option maxRecDepth 20000 in
theorem ggX2_unitsAsked_X4_room : GoodIn wsX2_unitsAsked wsX4_room := goodIn_r _ [29, 30, 31, 42, 43, 44, 45, 46, 47, 48, 49, 50, 51, 52, 53] (by decide +kernel) (by decide +kernel)
set_option maxRecDepth 20000 in
theorem gX2_unitsAsked_X4_room : GoodIn wsX2_unitsAsked (wsV RX2 109 RX4 yX4_room wsX4_room) := goodIn_app (goodIn_of _ (by decide +kernel)) ggX2_unitsAsked_X4_room
theorem dX2_unitsAsked_0 : decode cX2_unitsAsked 0 = .ok (.aload_n 0, 1) := by decide +kernel
theorem dX2_unitsAsked_1 : decode cX2_unitsAsked 1 = .ok (.getfield 19, 3) := by decide +kernel
theorem dX2_unitsAsked_4 : decode cX2_unitsAsked 4 = .ok (.iload_n 1, 1) := by decide +kernel
theorem dX2_unitsAsked_5 : decode cX2_unitsAsked 5 = .ok (.aaload, 1) := by decide +kernel
theorem dX2_unitsAsked_6 : decode cX2_unitsAsked 6 = .ok (.astore_n 3, 1) := by decide +kernel
theorem dX2_unitsAsked_7 : decode cX2_unitsAsked 7 = .ok (.aload_n 3, 1) := by decide +kernel
theorem dX2_unitsAsked_8 : decode cX2_unitsAsked 8 = .ok (.getfield 101, 3) := by decide +kernel
theorem dX2_unitsAsked_11 : decode cX2_unitsAsked 11 = .ok (.ifCond .eq 5, 3) := by decide +kernel
end
section
theorem dX2_unitsAsked_14 : decode cX2_unitsAsked 14 = .ok (.iconst 0, 1) := by decide +kernel
theorem dX2_unitsAsked_15 : decode cX2_unitsAsked 15 = .ok (.ireturn, 1) := by decide +kernel
theorem dX2_unitsAsked_16 : decode cX2_unitsAsked 16 = .ok (.aload_n 3, 1) := by decide +kernel
theorem dX2_unitsAsked_17 : decode cX2_unitsAsked 17 = .ok (.aload_n 0, 1) := by decide +kernel
theorem dX2_unitsAsked_18 : decode cX2_unitsAsked 18 = .ok (.invokevirtual 94, 3) := by decide +kernel
theorem dX2_unitsAsked_21 : decode cX2_unitsAsked 21 = .ok (.invokevirtual 105, 3) := by decide +kernel
theorem dX2_unitsAsked_24 : decode cX2_unitsAsked 24 = .ok (.aload_n 3, 1) := by decide +kernel
theorem dX2_unitsAsked_25 : decode cX2_unitsAsked 25 = .ok (.invokevirtual 109, 3) := by decide +kernel
theorem dX2_unitsAsked_28 : decode cX2_unitsAsked 28 = .ok (.iadd, 1) := by decide +kernel
theorem dX2_unitsAsked_29 : decode cX2_unitsAsked 29 = .ok (.istore 4, 2) := by decide +kernel
theorem dX2_unitsAsked_31 : decode cX2_unitsAsked 31 = .ok (.iload_n 1, 1) := by decide +kernel
theorem dX2_unitsAsked_32 : decode cX2_unitsAsked 32 = .ok (.iload_n 2, 1) := by decide +kernel
theorem dX2_unitsAsked_33 : decode cX2_unitsAsked 33 = .ok (.if_icmp .ne 8, 3) := by decide +kernel
theorem dX2_unitsAsked_36 : decode cX2_unitsAsked 36 = .ok (.iload 4, 2) := by decide +kernel
theorem dX2_unitsAsked_38 : decode cX2_unitsAsked 38 = .ok (.goto 12, 3) := by decide +kernel
theorem dX2_unitsAsked_41 : decode cX2_unitsAsked 41 = .ok (.aload_n 3, 1) := by decide +kernel
theorem dX2_unitsAsked_42 : decode cX2_unitsAsked 42 = .ok (.getfield 112, 3) := by decide +kernel
theorem dX2_unitsAsked_45 : decode cX2_unitsAsked 45 = .ok (.iload 4, 2) := by decide +kernel
theorem dX2_unitsAsked_47 : decode cX2_unitsAsked 47 = .ok (.invokestatic 115, 3) := by decide +kernel
theorem dX2_unitsAsked_50 : decode cX2_unitsAsked 50 = .ok (.ireturn, 1) := by decide +kernel
set_option maxRecDepth 20000 in
theorem ggX2_passHour_X1_distribute : GoodIn wsX2_passHour wsX1_distribute := goodIn_r _ [12, 13, 14, 15, 16, 17, 18, 19, 20, 21, 22, 23, 24, 25, 26, 27, 28, 7, 29, 30, 31, 32, 33, 34, 35, 36, 4, 5, 37, 38, 39, 40, 41, 42, 43, 44, 45, 46, 47, 48, 49, 50, 51, 52, 53, 54, 55, 56, 57, 58, 59, 60, 61, 62, 63, 64, 65, 11, 66, 67, 68, 69, 70, 71, 72, 73, 74, 75, 76, 77, 78, 79, 80, 81, 82, 83, 84, 85, 86, 87, 88, 89, 90, 91, 92, 93, 94, 95, 96, 97, 98, 99, 100, 101, 102, 103, 104, 105, 106, 107, 108, 109, 110, 133, 134, 135, 136, 137, 138, 123, 124, 125, 126, 127, 128, 129, 130, 131, 132, 139, 140, 141, 142, 143, 144, 145, 146, 147, 148, 149, 150, 151, 152, 153] (by decide +kernel) (by decide +kernel)
set_option maxRecDepth 20000 in
theorem gX2_passHour_X1_distribute : GoodIn wsX2_passHour (wsV RX2 118 RX1 yX1_distribute wsX1_distribute) := goodIn_app (goodIn_of _ (by decide +kernel)) ggX2_passHour_X1_distribute
set_option maxRecDepth 20000 in
theorem ggX2_passHour_X2_supplyNow : GoodIn wsX2_passHour wsX2_supplyNow := goodIn_r _ [23, 24, 25, 26, 27, 22, 28, 7, 29, 30, 31, 32, 123, 124, 125, 126, 127, 128, 129, 130, 131, 132] (by decide +kernel) (by decide +kernel)
set_option maxRecDepth 20000 in
theorem gX2_passHour_X2_supplyNow : GoodIn wsX2_passHour (wsV RX2 127 RX2 yX2_supplyNow wsX2_supplyNow) := goodIn_app (goodIn_of _ (by decide +kernel)) ggX2_passHour_X2_supplyNow
set_option maxRecDepth 20000 in
theorem ggX2_passHour_X1_lostIn : GoodIn wsX2_passHour wsX1_lostIn := goodIn_r _ [115, 79, 76, 133, 134, 135, 136, 137, 138] (by decide +kernel) (by decide +kernel)
set_option maxRecDepth 20000 in
theorem gX2_passHour_X1_lostIn : GoodIn wsX2_passHour (wsV RX2 130 RX1 yX1_lostIn wsX1_lostIn) := goodIn_app (goodIn_of _ (by decide +kernel)) ggX2_passHour_X1_lostIn
set_option maxRecDepth 20000 in
theorem ggX2_passHour_X2_useWater : GoodIn wsX2_passHour wsX2_useWater := goodIn_r _ [119, 120, 45, 46, 47, 48, 121, 122, 43, 1, 25, 26, 27, 22, 28, 7, 29, 30, 31, 32, 49, 50, 51, 52, 53, 54, 55, 56, 139, 140, 141, 142, 143, 144, 145, 146, 147, 148, 149, 150, 123, 124, 125, 126, 127, 128, 129, 130, 131, 132] (by decide +kernel) (by decide +kernel)
set_option maxRecDepth 20000 in
theorem gX2_passHour_X2_useWater : GoodIn wsX2_passHour (wsV RX2 136 RX2 yX2_useWater wsX2_useWater) := goodIn_app (goodIn_of _ (by decide +kernel)) ggX2_passHour_X2_useWater
theorem dX2_passHour_0 : decode cX2_passHour 0 = .ok (.aload_n 1, 1) := by decide +kernel
theorem dX2_passHour_1 : decode cX2_passHour 1 = .ok (.aload_n 0, 1) := by decide +kernel
theorem dX2_passHour_2 : decode cX2_passHour 2 = .ok (.invokevirtual 118, 3) := by decide +kernel
theorem dX2_passHour_5 : decode cX2_passHour 5 = .ok (.aload_n 0, 1) := by decide +kernel
theorem dX2_passHour_6 : decode cX2_passHour 6 = .ok (.getfield 30, 3) := by decide +kernel
theorem dX2_passHour_9 : decode cX2_passHour 9 = .ok (.bipush 6, 2) := by decide +kernel
theorem dX2_passHour_11 : decode cX2_passHour 11 = .ok (.iaload, 1) := by decide +kernel
theorem dX2_passHour_12 : decode cX2_passHour 12 = .ok (.istore_n 2, 1) := by decide +kernel
theorem dX2_passHour_13 : decode cX2_passHour 13 = .ok (.aload_n 0, 1) := by decide +kernel
theorem dX2_passHour_14 : decode cX2_passHour 14 = .ok (.getfield 30, 3) := by decide +kernel
theorem dX2_passHour_17 : decode cX2_passHour 17 = .ok (.iconst 0, 1) := by decide +kernel
theorem dX2_passHour_18 : decode cX2_passHour 18 = .ok (.dup2, 1) := by decide +kernel
theorem dX2_passHour_19 : decode cX2_passHour 19 = .ok (.iaload, 1) := by decide +kernel
theorem dX2_passHour_20 : decode cX2_passHour 20 = .ok (.aload_n 1, 1) := by decide +kernel
theorem dX2_passHour_21 : decode cX2_passHour 21 = .ok (.getfield 124, 3) := by decide +kernel
theorem dX2_passHour_24 : decode cX2_passHour 24 = .ok (.iconst 0, 1) := by decide +kernel
theorem dX2_passHour_25 : decode cX2_passHour 25 = .ok (.iaload, 1) := by decide +kernel
theorem dX2_passHour_26 : decode cX2_passHour 26 = .ok (.iadd, 1) := by decide +kernel
theorem dX2_passHour_27 : decode cX2_passHour 27 = .ok (.iastore, 1) := by decide +kernel
theorem dX2_passHour_28 : decode cX2_passHour 28 = .ok (.aload_n 0, 1) := by decide +kernel
theorem dX2_passHour_29 : decode cX2_passHour 29 = .ok (.getfield 30, 3) := by decide +kernel
theorem dX2_passHour_32 : decode cX2_passHour 32 = .ok (.iconst 1, 1) := by decide +kernel
theorem dX2_passHour_33 : decode cX2_passHour 33 = .ok (.dup2, 1) := by decide +kernel
theorem dX2_passHour_34 : decode cX2_passHour 34 = .ok (.iaload, 1) := by decide +kernel
theorem dX2_passHour_35 : decode cX2_passHour 35 = .ok (.aload_n 0, 1) := by decide +kernel
theorem dX2_passHour_36 : decode cX2_passHour 36 = .ok (.invokevirtual 127, 3) := by decide +kernel
theorem dX2_passHour_39 : decode cX2_passHour 39 = .ok (.aload_n 1, 1) := by decide +kernel
theorem dX2_passHour_40 : decode cX2_passHour 40 = .ok (.getfield 124, 3) := by decide +kernel
theorem dX2_passHour_43 : decode cX2_passHour 43 = .ok (.iconst 0, 1) := by decide +kernel
theorem dX2_passHour_44 : decode cX2_passHour 44 = .ok (.iaload, 1) := by decide +kernel
theorem dX2_passHour_45 : decode cX2_passHour 45 = .ok (.isub, 1) := by decide +kernel
theorem dX2_passHour_46 : decode cX2_passHour 46 = .ok (.iadd, 1) := by decide +kernel
theorem dX2_passHour_47 : decode cX2_passHour 47 = .ok (.iastore, 1) := by decide +kernel
theorem dX2_passHour_48 : decode cX2_passHour 48 = .ok (.iconst 0, 1) := by decide +kernel
theorem dX2_passHour_49 : decode cX2_passHour 49 = .ok (.istore_n 3, 1) := by decide +kernel
theorem dX2_passHour_50 : decode cX2_passHour 50 = .ok (.iload_n 3, 1) := by decide +kernel
theorem dX2_passHour_51 : decode cX2_passHour 51 = .ok (.aload_n 0, 1) := by decide +kernel
theorem dX2_passHour_52 : decode cX2_passHour 52 = .ok (.getfield 49, 3) := by decide +kernel
theorem dX2_passHour_55 : decode cX2_passHour 55 = .ok (.if_icmp .ge 23, 3) := by decide +kernel
theorem dX2_passHour_58 : decode cX2_passHour 58 = .ok (.aload_n 0, 1) := by decide +kernel
theorem dX2_passHour_59 : decode cX2_passHour 59 = .ok (.getfield 30, 3) := by decide +kernel
theorem dX2_passHour_62 : decode cX2_passHour 62 = .ok (.iconst 2, 1) := by decide +kernel
theorem dX2_passHour_63 : decode cX2_passHour 63 = .ok (.dup2, 1) := by decide +kernel
theorem dX2_passHour_64 : decode cX2_passHour 64 = .ok (.iaload, 1) := by decide +kernel
theorem dX2_passHour_65 : decode cX2_passHour 65 = .ok (.aload_n 1, 1) := by decide +kernel
theorem dX2_passHour_66 : decode cX2_passHour 66 = .ok (.iload_n 3, 1) := by decide +kernel
theorem dX2_passHour_67 : decode cX2_passHour 67 = .ok (.invokevirtual 130, 3) := by decide +kernel
theorem dX2_passHour_70 : decode cX2_passHour 70 = .ok (.iadd, 1) := by decide +kernel
theorem dX2_passHour_71 : decode cX2_passHour 71 = .ok (.iastore, 1) := by decide +kernel
theorem dX2_passHour_72 : decode cX2_passHour 72 = .ok (.iinc 3 1, 3) := by decide +kernel
theorem dX2_passHour_75 : decode cX2_passHour 75 = .ok (.goto (-25), 3) := by decide +kernel
theorem dX2_passHour_78 : decode cX2_passHour 78 = .ok (.iconst 0, 1) := by decide +kernel
theorem dX2_passHour_79 : decode cX2_passHour 79 = .ok (.istore_n 3, 1) := by decide +kernel
theorem dX2_passHour_80 : decode cX2_passHour 80 = .ok (.iload_n 3, 1) := by decide +kernel
theorem dX2_passHour_81 : decode cX2_passHour 81 = .ok (.aload_n 0, 1) := by decide +kernel
theorem dX2_passHour_82 : decode cX2_passHour 82 = .ok (.getfield 64, 3) := by decide +kernel
theorem dX2_passHour_85 : decode cX2_passHour 85 = .ok (.if_icmp .ge 25, 3) := by decide +kernel
theorem dX2_passHour_88 : decode cX2_passHour 88 = .ok (.aload_n 0, 1) := by decide +kernel
theorem dX2_passHour_89 : decode cX2_passHour 89 = .ok (.aload_n 0, 1) := by decide +kernel
theorem dX2_passHour_90 : decode cX2_passHour 90 = .ok (.getfield 19, 3) := by decide +kernel
theorem dX2_passHour_93 : decode cX2_passHour 93 = .ok (.iload_n 3, 1) := by decide +kernel
theorem dX2_passHour_94 : decode cX2_passHour 94 = .ok (.aaload, 1) := by decide +kernel
theorem dX2_passHour_95 : decode cX2_passHour 95 = .ok (.aload_n 1, 1) := by decide +kernel
theorem dX2_passHour_96 : decode cX2_passHour 96 = .ok (.getfield 133, 3) := by decide +kernel
theorem dX2_passHour_99 : decode cX2_passHour 99 = .ok (.iload_n 3, 1) := by decide +kernel
theorem dX2_passHour_100 : decode cX2_passHour 100 = .ok (.iaload, 1) := by decide +kernel
theorem dX2_passHour_101 : decode cX2_passHour 101 = .ok (.invokevirtual 136, 3) := by decide +kernel
theorem dX2_passHour_104 : decode cX2_passHour 104 = .ok (.iinc 3 1, 3) := by decide +kernel
theorem dX2_passHour_107 : decode cX2_passHour 107 = .ok (.goto (-27), 3) := by decide +kernel
theorem dX2_passHour_110 : decode cX2_passHour 110 = .ok (.aload_n 0, 1) := by decide +kernel
theorem dX2_passHour_111 : decode cX2_passHour 111 = .ok (.dup, 1) := by decide +kernel
theorem dX2_passHour_112 : decode cX2_passHour 112 = .ok (.getfield 71, 3) := by decide +kernel
theorem dX2_passHour_115 : decode cX2_passHour 115 = .ok (.iconst 1, 1) := by decide +kernel
theorem dX2_passHour_116 : decode cX2_passHour 116 = .ok (.iadd, 1) := by decide +kernel
theorem dX2_passHour_117 : decode cX2_passHour 117 = .ok (.putfield 71, 3) := by decide +kernel
theorem dX2_passHour_120 : decode cX2_passHour 120 = .ok (.aload_n 0, 1) := by decide +kernel
theorem dX2_passHour_121 : decode cX2_passHour 121 = .ok (.getfield 30, 3) := by decide +kernel
theorem dX2_passHour_124 : decode cX2_passHour 124 = .ok (.bipush 6, 2) := by decide +kernel
theorem dX2_passHour_126 : decode cX2_passHour 126 = .ok (.iaload, 1) := by decide +kernel
theorem dX2_passHour_127 : decode cX2_passHour 127 = .ok (.iload_n 2, 1) := by decide +kernel
theorem dX2_passHour_128 : decode cX2_passHour 128 = .ok (.isub, 1) := by decide +kernel
theorem dX2_passHour_129 : decode cX2_passHour 129 = .ok (.ireturn, 1) := by decide +kernel
set_option maxRecDepth 20000 in
theorem ggX2_useWater_X2_hourOfDay : GoodIn wsX2_useWater wsX2_hourOfDay := goodIn_r _ [14, 15, 16, 17, 18, 19, 40, 41, 42, 43, 44, 45, 46, 47, 48, 49] (by decide +kernel) (by decide +kernel)
set_option maxRecDepth 20000 in
theorem gX2_useWater_X2_hourOfDay : GoodIn wsX2_useWater (wsV RX2 94 RX2 yX2_hourOfDay wsX2_hourOfDay) := goodIn_app (goodIn_of _ (by decide +kernel)) ggX2_useWater_X2_hourOfDay
set_option maxRecDepth 20000 in
theorem ggX2_useWater_X4_needAt : GoodIn wsX2_useWater wsX4_needAt := goodIn_r _ [24, 25, 26, 27, 28, 29, 30, 31, 32, 33, 34, 35, 36, 37, 38, 39] (by decide +kernel) (by decide +kernel)
set_option maxRecDepth 20000 in
theorem gX2_useWater_X4_needAt : GoodIn wsX2_useWater (wsV RX2 105 RX4 yX4_needAt wsX4_needAt) := goodIn_app (goodIn_of _ (by decide +kernel)) ggX2_useWater_X4_needAt
theorem dX2_useWater_0 : decode cX2_useWater 0 = .ok (.aload_n 1, 1) := by decide +kernel
theorem dX2_useWater_1 : decode cX2_useWater 1 = .ok (.aload_n 0, 1) := by decide +kernel
theorem dX2_useWater_2 : decode cX2_useWater 2 = .ok (.invokevirtual 94, 3) := by decide +kernel
theorem dX2_useWater_5 : decode cX2_useWater 5 = .ok (.invokevirtual 105, 3) := by decide +kernel
theorem dX2_useWater_8 : decode cX2_useWater 8 = .ok (.istore_n 3, 1) := by decide +kernel
theorem dX2_useWater_9 : decode cX2_useWater 9 = .ok (.iload_n 2, 1) := by decide +kernel
theorem dX2_useWater_10 : decode cX2_useWater 10 = .ok (.aload_n 1, 1) := by decide +kernel
theorem dX2_useWater_11 : decode cX2_useWater 11 = .ok (.getfield 140, 3) := by decide +kernel
theorem dX2_useWater_14 : decode cX2_useWater 14 = .ok (.iadd, 1) := by decide +kernel
theorem dX2_useWater_15 : decode cX2_useWater 15 = .ok (.istore 4, 2) := by decide +kernel
theorem dX2_useWater_17 : decode cX2_useWater 17 = .ok (.iload_n 3, 1) := by decide +kernel
theorem dX2_useWater_18 : decode cX2_useWater 18 = .ok (.iload 4, 2) := by decide +kernel
theorem dX2_useWater_20 : decode cX2_useWater 20 = .ok (.invokestatic 115, 3) := by decide +kernel
theorem dX2_useWater_23 : decode cX2_useWater 23 = .ok (.istore 5, 2) := by decide +kernel
theorem dX2_useWater_25 : decode cX2_useWater 25 = .ok (.aload_n 1, 1) := by decide +kernel
theorem dX2_useWater_26 : decode cX2_useWater 26 = .ok (.getfield 143, 3) := by decide +kernel
theorem dX2_useWater_29 : decode cX2_useWater 29 = .ok (.iload 4, 2) := by decide +kernel
theorem dX2_useWater_31 : decode cX2_useWater 31 = .ok (.iload 5, 2) := by decide +kernel
theorem dX2_useWater_33 : decode cX2_useWater 33 = .ok (.isub, 1) := by decide +kernel
theorem dX2_useWater_34 : decode cX2_useWater 34 = .ok (.invokestatic 115, 3) := by decide +kernel
theorem dX2_useWater_37 : decode cX2_useWater 37 = .ok (.istore 6, 2) := by decide +kernel
theorem dX2_useWater_39 : decode cX2_useWater 39 = .ok (.aload_n 1, 1) := by decide +kernel
theorem dX2_useWater_40 : decode cX2_useWater 40 = .ok (.iload 4, 2) := by decide +kernel
theorem dX2_useWater_42 : decode cX2_useWater 42 = .ok (.iload 5, 2) := by decide +kernel
theorem dX2_useWater_44 : decode cX2_useWater 44 = .ok (.isub, 1) := by decide +kernel
theorem dX2_useWater_45 : decode cX2_useWater 45 = .ok (.iload 6, 2) := by decide +kernel
theorem dX2_useWater_47 : decode cX2_useWater 47 = .ok (.isub, 1) := by decide +kernel
theorem dX2_useWater_48 : decode cX2_useWater 48 = .ok (.putfield 140, 3) := by decide +kernel
theorem dX2_useWater_51 : decode cX2_useWater 51 = .ok (.aload_n 1, 1) := by decide +kernel
theorem dX2_useWater_52 : decode cX2_useWater 52 = .ok (.dup, 1) := by decide +kernel
theorem dX2_useWater_53 : decode cX2_useWater 53 = .ok (.getfield 146, 3) := by decide +kernel
theorem dX2_useWater_56 : decode cX2_useWater 56 = .ok (.iload_n 3, 1) := by decide +kernel
theorem dX2_useWater_57 : decode cX2_useWater 57 = .ok (.iload 5, 2) := by decide +kernel
theorem dX2_useWater_59 : decode cX2_useWater 59 = .ok (.isub, 1) := by decide +kernel
theorem dX2_useWater_60 : decode cX2_useWater 60 = .ok (.iadd, 1) := by decide +kernel
theorem dX2_useWater_61 : decode cX2_useWater 61 = .ok (.putfield 146, 3) := by decide +kernel
theorem dX2_useWater_64 : decode cX2_useWater 64 = .ok (.aload_n 1, 1) := by decide +kernel
theorem dX2_useWater_65 : decode cX2_useWater 65 = .ok (.iconst 0, 1) := by decide +kernel
theorem dX2_useWater_66 : decode cX2_useWater 66 = .ok (.putfield 101, 3) := by decide +kernel
theorem dX2_useWater_69 : decode cX2_useWater 69 = .ok (.aload_n 0, 1) := by decide +kernel
theorem dX2_useWater_70 : decode cX2_useWater 70 = .ok (.getfield 30, 3) := by decide +kernel
theorem dX2_useWater_73 : decode cX2_useWater 73 = .ok (.iconst 3, 1) := by decide +kernel
theorem dX2_useWater_74 : decode cX2_useWater 74 = .ok (.dup2, 1) := by decide +kernel
theorem dX2_useWater_75 : decode cX2_useWater 75 = .ok (.iaload, 1) := by decide +kernel
theorem dX2_useWater_76 : decode cX2_useWater 76 = .ok (.iload_n 2, 1) := by decide +kernel
theorem dX2_useWater_77 : decode cX2_useWater 77 = .ok (.iadd, 1) := by decide +kernel
theorem dX2_useWater_78 : decode cX2_useWater 78 = .ok (.iastore, 1) := by decide +kernel
theorem dX2_useWater_79 : decode cX2_useWater 79 = .ok (.aload_n 0, 1) := by decide +kernel
theorem dX2_useWater_80 : decode cX2_useWater 80 = .ok (.getfield 30, 3) := by decide +kernel
theorem dX2_useWater_83 : decode cX2_useWater 83 = .ok (.iconst 4, 1) := by decide +kernel
theorem dX2_useWater_84 : decode cX2_useWater 84 = .ok (.dup2, 1) := by decide +kernel
theorem dX2_useWater_85 : decode cX2_useWater 85 = .ok (.iaload, 1) := by decide +kernel
theorem dX2_useWater_86 : decode cX2_useWater 86 = .ok (.iload 5, 2) := by decide +kernel
theorem dX2_useWater_88 : decode cX2_useWater 88 = .ok (.iadd, 1) := by decide +kernel
theorem dX2_useWater_89 : decode cX2_useWater 89 = .ok (.iastore, 1) := by decide +kernel
theorem dX2_useWater_90 : decode cX2_useWater 90 = .ok (.aload_n 0, 1) := by decide +kernel
theorem dX2_useWater_91 : decode cX2_useWater 91 = .ok (.getfield 30, 3) := by decide +kernel
theorem dX2_useWater_94 : decode cX2_useWater 94 = .ok (.iconst 5, 1) := by decide +kernel
theorem dX2_useWater_95 : decode cX2_useWater 95 = .ok (.dup2, 1) := by decide +kernel
theorem dX2_useWater_96 : decode cX2_useWater 96 = .ok (.iaload, 1) := by decide +kernel
theorem dX2_useWater_97 : decode cX2_useWater 97 = .ok (.iload 6, 2) := by decide +kernel
theorem dX2_useWater_99 : decode cX2_useWater 99 = .ok (.iadd, 1) := by decide +kernel
theorem dX2_useWater_100 : decode cX2_useWater 100 = .ok (.iastore, 1) := by decide +kernel
theorem dX2_useWater_101 : decode cX2_useWater 101 = .ok (.aload_n 0, 1) := by decide +kernel
theorem dX2_useWater_102 : decode cX2_useWater 102 = .ok (.getfield 30, 3) := by decide +kernel
theorem dX2_useWater_105 : decode cX2_useWater 105 = .ok (.bipush 6, 2) := by decide +kernel
theorem dX2_useWater_107 : decode cX2_useWater 107 = .ok (.dup2, 1) := by decide +kernel
theorem dX2_useWater_108 : decode cX2_useWater 108 = .ok (.iaload, 1) := by decide +kernel
theorem dX2_useWater_109 : decode cX2_useWater 109 = .ok (.iload_n 3, 1) := by decide +kernel
theorem dX2_useWater_110 : decode cX2_useWater 110 = .ok (.iload 5, 2) := by decide +kernel
theorem dX2_useWater_112 : decode cX2_useWater 112 = .ok (.isub, 1) := by decide +kernel
theorem dX2_useWater_113 : decode cX2_useWater 113 = .ok (.iadd, 1) := by decide +kernel
theorem dX2_useWater_114 : decode cX2_useWater 114 = .ok (.iastore, 1) := by decide +kernel
theorem dX2_useWater_115 : decode cX2_useWater 115 = .ok (.return_, 1) := by decide +kernel
theorem dX3_init_0 : decode cX3_init 0 = .ok (.aload_n 0, 1) := by decide +kernel
theorem dX3_init_1 : decode cX3_init 1 = .ok (.invokespecial 3, 3) := by decide +kernel
theorem dX3_init_4 : decode cX3_init 4 = .ok (.aload_n 0, 1) := by decide +kernel
theorem dX3_init_5 : decode cX3_init 5 = .ok (.bipush (-105), 2) := by decide +kernel
theorem dX3_init_7 : decode cX3_init 7 = .ok (.putfield 9, 3) := by decide +kernel
theorem dX3_init_10 : decode cX3_init 10 = .ok (.aload_n 0, 1) := by decide +kernel
theorem dX3_init_11 : decode cX3_init 11 = .ok (.bipush 100, 2) := by decide +kernel
theorem dX3_init_13 : decode cX3_init 13 = .ok (.newarray .char, 2) := by decide +kernel
theorem dX3_init_15 : decode cX3_init 15 = .ok (.putfield 15, 3) := by decide +kernel
theorem dX3_init_18 : decode cX3_init 18 = .ok (.return_, 1) := by decide +kernel
theorem dX3_isFull_0 : decode cX3_isFull 0 = .ok (.aload_n 0, 1) := by decide +kernel
theorem dX3_isFull_1 : decode cX3_isFull 1 = .ok (.getfield 19, 3) := by decide +kernel
theorem dX3_isFull_4 : decode cX3_isFull 4 = .ok (.bipush 100, 2) := by decide +kernel
theorem dX3_isFull_6 : decode cX3_isFull 6 = .ok (.if_icmp .lt 7, 3) := by decide +kernel
theorem dX3_isFull_9 : decode cX3_isFull 9 = .ok (.iconst 1, 1) := by decide +kernel
theorem dX3_isFull_10 : decode cX3_isFull 10 = .ok (.goto 4, 3) := by decide +kernel
theorem dX3_isFull_13 : decode cX3_isFull 13 = .ok (.iconst 0, 1) := by decide +kernel
theorem dX3_isFull_14 : decode cX3_isFull 14 = .ok (.ireturn, 1) := by decide +kernel
set_option maxRecDepth 20000 in
theorem ggX3_put_X3_isFull : GoodIn wsX3_put wsX3_isFull := goodIn_r _ [7, 2, 8, 9, 10, 11, 12] (by decide +kernel) (by decide +kernel)
set_option maxRecDepth 20000 in
theorem gX3_put_X3_isFull : GoodIn wsX3_put (wsV RX3 22 RX3 yX3_isFull wsX3_isFull) := goodIn_app (goodIn_of _ (by decide +kernel)) ggX3_put_X3_isFull
theorem dX3_put_0 : decode cX3_put 0 = .ok (.aload_n 0, 1) := by decide +kernel
theorem dX3_put_1 : decode cX3_put 1 = .ok (.invokevirtual 22, 3) := by decide +kernel
theorem dX3_put_4 : decode cX3_put 4 = .ok (.ifCond .eq 4, 3) := by decide +kernel
theorem dX3_put_7 : decode cX3_put 7 = .ok (.return_, 1) := by decide +kernel
theorem dX3_put_8 : decode cX3_put 8 = .ok (.aload_n 0, 1) := by decide +kernel
theorem dX3_put_9 : decode cX3_put 9 = .ok (.getfield 15, 3) := by decide +kernel
theorem dX3_put_12 : decode cX3_put 12 = .ok (.aload_n 0, 1) := by decide +kernel
theorem dX3_put_13 : decode cX3_put 13 = .ok (.getfield 19, 3) := by decide +kernel
theorem dX3_put_16 : decode cX3_put 16 = .ok (.iload_n 1, 1) := by decide +kernel
theorem dX3_put_17 : decode cX3_put 17 = .ok (.i2c, 1) := by decide +kernel
theorem dX3_put_18 : decode cX3_put 18 = .ok (.castore, 1) := by decide +kernel
theorem dX3_put_19 : decode cX3_put 19 = .ok (.aload_n 0, 1) := by decide +kernel
theorem dX3_put_20 : decode cX3_put 20 = .ok (.dup, 1) := by decide +kernel
theorem dX3_put_21 : decode cX3_put 21 = .ok (.getfield 19, 3) := by decide +kernel
theorem dX3_put_24 : decode cX3_put 24 = .ok (.iconst 1, 1) := by decide +kernel
theorem dX3_put_25 : decode cX3_put 25 = .ok (.iadd, 1) := by decide +kernel
theorem dX3_put_26 : decode cX3_put 26 = .ok (.putfield 19, 3) := by decide +kernel
theorem dX3_put_29 : decode cX3_put 29 = .ok (.return_, 1) := by decide +kernel
theorem dX4_init_0 : decode cX4_init 0 = .ok (.aload_n 0, 1) := by decide +kernel
theorem dX4_init_1 : decode cX4_init 1 = .ok (.invokespecial 1, 3) := by decide +kernel
theorem dX4_init_4 : decode cX4_init 4 = .ok (.return_, 1) := by decide +kernel
theorem dX4_begin_0 : decode cX4_begin 0 = .ok (.aload_n 0, 1) := by decide +kernel
theorem dX4_begin_1 : decode cX4_begin 1 = .ok (.iload_n 1, 1) := by decide +kernel
theorem dX4_begin_2 : decode cX4_begin 2 = .ok (.putfield 7, 3) := by decide +kernel
theorem dX4_begin_5 : decode cX4_begin 5 = .ok (.aload_n 0, 1) := by decide +kernel
theorem dX4_begin_6 : decode cX4_begin 6 = .ok (.iload_n 2, 1) := by decide +kernel
theorem dX4_begin_7 : decode cX4_begin 7 = .ok (.putfield 13, 3) := by decide +kernel
theorem dX4_begin_10 : decode cX4_begin 10 = .ok (.aload_n 0, 1) := by decide +kernel
theorem dX4_begin_11 : decode cX4_begin 11 = .ok (.iload_n 3, 1) := by decide +kernel
theorem dX4_begin_12 : decode cX4_begin 12 = .ok (.putfield 16, 3) := by decide +kernel
theorem dX4_begin_15 : decode cX4_begin 15 = .ok (.aload_n 0, 1) := by decide +kernel
theorem dX4_begin_16 : decode cX4_begin 16 = .ok (.iconst 0, 1) := by decide +kernel
theorem dX4_begin_17 : decode cX4_begin 17 = .ok (.putfield 19, 3) := by decide +kernel
theorem dX4_begin_20 : decode cX4_begin 20 = .ok (.aload_n 0, 1) := by decide +kernel
theorem dX4_begin_21 : decode cX4_begin 21 = .ok (.iconst 0, 1) := by decide +kernel
theorem dX4_begin_22 : decode cX4_begin 22 = .ok (.putfield 22, 3) := by decide +kernel
theorem dX4_begin_25 : decode cX4_begin 25 = .ok (.aload_n 0, 1) := by decide +kernel
theorem dX4_begin_26 : decode cX4_begin 26 = .ok (.iconst 0, 1) := by decide +kernel
theorem dX4_begin_27 : decode cX4_begin 27 = .ok (.putfield 25, 3) := by decide +kernel
theorem dX4_begin_30 : decode cX4_begin 30 = .ok (.aload_n 0, 1) := by decide +kernel
theorem dX4_begin_31 : decode cX4_begin 31 = .ok (.iconst 0, 1) := by decide +kernel
theorem dX4_begin_32 : decode cX4_begin 32 = .ok (.putfield 28, 3) := by decide +kernel
theorem dX4_begin_35 : decode cX4_begin 35 = .ok (.aload_n 0, 1) := by decide +kernel
theorem dX4_begin_36 : decode cX4_begin 36 = .ok (.iconst 0, 1) := by decide +kernel
theorem dX4_begin_37 : decode cX4_begin 37 = .ok (.putfield 31, 3) := by decide +kernel
theorem dX4_begin_40 : decode cX4_begin 40 = .ok (.aload_n 0, 1) := by decide +kernel
theorem dX4_begin_41 : decode cX4_begin 41 = .ok (.iconst 0, 1) := by decide +kernel
theorem dX4_begin_42 : decode cX4_begin 42 = .ok (.putfield 34, 3) := by decide +kernel
theorem dX4_begin_45 : decode cX4_begin 45 = .ok (.aload_n 0, 1) := by decide +kernel
theorem dX4_begin_46 : decode cX4_begin 46 = .ok (.iconst 0, 1) := by decide +kernel
theorem dX4_begin_47 : decode cX4_begin 47 = .ok (.putfield 37, 3) := by decide +kernel
theorem dX4_begin_50 : decode cX4_begin 50 = .ok (.aload_n 0, 1) := by decide +kernel
theorem dX4_begin_51 : decode cX4_begin 51 = .ok (.iconst 0, 1) := by decide +kernel
theorem dX4_begin_52 : decode cX4_begin 52 = .ok (.putfield 40, 3) := by decide +kernel
theorem dX4_begin_55 : decode cX4_begin 55 = .ok (.aload_n 0, 1) := by decide +kernel
theorem dX4_begin_56 : decode cX4_begin 56 = .ok (.iconst 0, 1) := by decide +kernel
theorem dX4_begin_57 : decode cX4_begin 57 = .ok (.putfield 43, 3) := by decide +kernel
theorem dX4_begin_60 : decode cX4_begin 60 = .ok (.return_, 1) := by decide +kernel
set_option maxRecDepth 20000 in
theorem ggX4_copyFrom_X4_begin : GoodIn wsX4_copyFrom wsX4_begin := goodIn_r _ [17, 1, 2, 3, 4, 5, 6, 7, 8, 9, 10, 11, 12, 18, 19, 20, 21, 22, 23, 24, 25, 26, 27, 28, 29] (by decide +kernel) (by decide +kernel)
set_option maxRecDepth 20000 in
theorem gX4_copyFrom_X4_begin : GoodIn wsX4_copyFrom (wsV RX4 47 RX4 yX4_begin wsX4_begin) := goodIn_app (goodIn_of _ (by decide +kernel)) ggX4_copyFrom_X4_begin
theorem dX4_copyFrom_0 : decode cX4_copyFrom 0 = .ok (.aload_n 0, 1) := by decide +kernel
theorem dX4_copyFrom_1 : decode cX4_copyFrom 1 = .ok (.aload_n 1, 1) := by decide +kernel
theorem dX4_copyFrom_2 : decode cX4_copyFrom 2 = .ok (.getfield 7, 3) := by decide +kernel
theorem dX4_copyFrom_5 : decode cX4_copyFrom 5 = .ok (.aload_n 1, 1) := by decide +kernel
theorem dX4_copyFrom_6 : decode cX4_copyFrom 6 = .ok (.getfield 13, 3) := by decide +kernel
theorem dX4_copyFrom_9 : decode cX4_copyFrom 9 = .ok (.aload_n 1, 1) := by decide +kernel
theorem dX4_copyFrom_10 : decode cX4_copyFrom 10 = .ok (.getfield 16, 3) := by decide +kernel
theorem dX4_copyFrom_13 : decode cX4_copyFrom 13 = .ok (.invokevirtual 47, 3) := by decide +kernel
theorem dX4_copyFrom_16 : decode cX4_copyFrom 16 = .ok (.aload_n 0, 1) := by decide +kernel
theorem dX4_copyFrom_17 : decode cX4_copyFrom 17 = .ok (.aload_n 1, 1) := by decide +kernel
theorem dX4_copyFrom_18 : decode cX4_copyFrom 18 = .ok (.getfield 19, 3) := by decide +kernel
theorem dX4_copyFrom_21 : decode cX4_copyFrom 21 = .ok (.putfield 19, 3) := by decide +kernel
theorem dX4_copyFrom_24 : decode cX4_copyFrom 24 = .ok (.aload_n 0, 1) := by decide +kernel
theorem dX4_copyFrom_25 : decode cX4_copyFrom 25 = .ok (.aload_n 1, 1) := by decide +kernel
theorem dX4_copyFrom_26 : decode cX4_copyFrom 26 = .ok (.getfield 22, 3) := by decide +kernel
theorem dX4_copyFrom_29 : decode cX4_copyFrom 29 = .ok (.putfield 22, 3) := by decide +kernel
theorem dX4_copyFrom_32 : decode cX4_copyFrom 32 = .ok (.aload_n 0, 1) := by decide +kernel
theorem dX4_copyFrom_33 : decode cX4_copyFrom 33 = .ok (.aload_n 1, 1) := by decide +kernel
theorem dX4_copyFrom_34 : decode cX4_copyFrom 34 = .ok (.getfield 25, 3) := by decide +kernel
theorem dX4_copyFrom_37 : decode cX4_copyFrom 37 = .ok (.putfield 25, 3) := by decide +kernel
theorem dX4_copyFrom_40 : decode cX4_copyFrom 40 = .ok (.aload_n 0, 1) := by decide +kernel
theorem dX4_copyFrom_41 : decode cX4_copyFrom 41 = .ok (.aload_n 1, 1) := by decide +kernel
theorem dX4_copyFrom_42 : decode cX4_copyFrom 42 = .ok (.getfield 28, 3) := by decide +kernel
theorem dX4_copyFrom_45 : decode cX4_copyFrom 45 = .ok (.putfield 28, 3) := by decide +kernel
theorem dX4_copyFrom_48 : decode cX4_copyFrom 48 = .ok (.aload_n 0, 1) := by decide +kernel
theorem dX4_copyFrom_49 : decode cX4_copyFrom 49 = .ok (.aload_n 1, 1) := by decide +kernel
theorem dX4_copyFrom_50 : decode cX4_copyFrom 50 = .ok (.getfield 31, 3) := by decide +kernel
theorem dX4_copyFrom_53 : decode cX4_copyFrom 53 = .ok (.putfield 31, 3) := by decide +kernel
theorem dX4_copyFrom_56 : decode cX4_copyFrom 56 = .ok (.aload_n 0, 1) := by decide +kernel
theorem dX4_copyFrom_57 : decode cX4_copyFrom 57 = .ok (.aload_n 1, 1) := by decide +kernel
theorem dX4_copyFrom_58 : decode cX4_copyFrom 58 = .ok (.getfield 34, 3) := by decide +kernel
theorem dX4_copyFrom_61 : decode cX4_copyFrom 61 = .ok (.putfield 34, 3) := by decide +kernel
theorem dX4_copyFrom_64 : decode cX4_copyFrom 64 = .ok (.aload_n 0, 1) := by decide +kernel
theorem dX4_copyFrom_65 : decode cX4_copyFrom 65 = .ok (.aload_n 1, 1) := by decide +kernel
theorem dX4_copyFrom_66 : decode cX4_copyFrom 66 = .ok (.getfield 37, 3) := by decide +kernel
theorem dX4_copyFrom_69 : decode cX4_copyFrom 69 = .ok (.putfield 37, 3) := by decide +kernel
theorem dX4_copyFrom_72 : decode cX4_copyFrom 72 = .ok (.aload_n 0, 1) := by decide +kernel
theorem dX4_copyFrom_73 : decode cX4_copyFrom 73 = .ok (.aload_n 1, 1) := by decide +kernel
theorem dX4_copyFrom_74 : decode cX4_copyFrom 74 = .ok (.getfield 40, 3) := by decide +kernel
theorem dX4_copyFrom_77 : decode cX4_copyFrom 77 = .ok (.putfield 40, 3) := by decide +kernel
theorem dX4_copyFrom_80 : decode cX4_copyFrom 80 = .ok (.aload_n 0, 1) := by decide +kernel
theorem dX4_copyFrom_81 : decode cX4_copyFrom 81 = .ok (.aload_n 1, 1) := by decide +kernel
theorem dX4_copyFrom_82 : decode cX4_copyFrom 82 = .ok (.getfield 43, 3) := by decide +kernel
theorem dX4_copyFrom_85 : decode cX4_copyFrom 85 = .ok (.putfield 43, 3) := by decide +kernel
theorem dX4_copyFrom_88 : decode cX4_copyFrom 88 = .ok (.return_, 1) := by decide +kernel
theorem dX4_needAt_0 : decode cX4_needAt 0 = .ok (.iload_n 1, 1) := by decide +kernel
theorem dX4_needAt_1 : decode cX4_needAt 1 = .ok (.aload_n 0, 1) := by decide +kernel
theorem dX4_needAt_2 : decode cX4_needAt 2 = .ok (.getfield 22, 3) := by decide +kernel
theorem dX4_needAt_5 : decode cX4_needAt 5 = .ok (.if_icmp .lt 18, 3) := by decide +kernel
theorem dX4_needAt_8 : decode cX4_needAt 8 = .ok (.iload_n 1, 1) := by decide +kernel
theorem dX4_needAt_9 : decode cX4_needAt 9 = .ok (.aload_n 0, 1) := by decide +kernel
theorem dX4_needAt_10 : decode cX4_needAt 10 = .ok (.getfield 25, 3) := by decide +kernel
theorem dX4_needAt_13 : decode cX4_needAt 13 = .ok (.if_icmp .ge 10, 3) := by decide +kernel
theorem dX4_needAt_16 : decode cX4_needAt 16 = .ok (.aload_n 0, 1) := by decide +kernel
theorem dX4_needAt_17 : decode cX4_needAt 17 = .ok (.getfield 19, 3) := by decide +kernel
theorem dX4_needAt_20 : decode cX4_needAt 20 = .ok (.goto 4, 3) := by decide +kernel
theorem dX4_needAt_23 : decode cX4_needAt 23 = .ok (.iconst 0, 1) := by decide +kernel
theorem dX4_needAt_24 : decode cX4_needAt 24 = .ok (.ireturn, 1) := by decide +kernel
theorem dX4_room_0 : decode cX4_room 0 = .ok (.aload_n 0, 1) := by decide +kernel
theorem dX4_room_1 : decode cX4_room 1 = .ok (.getfield 28, 3) := by decide +kernel
theorem dX4_room_4 : decode cX4_room 4 = .ok (.aload_n 0, 1) := by decide +kernel
theorem dX4_room_5 : decode cX4_room 5 = .ok (.getfield 31, 3) := by decide +kernel
theorem dX4_room_8 : decode cX4_room 8 = .ok (.isub, 1) := by decide +kernel
theorem dX4_room_9 : decode cX4_room 9 = .ok (.ireturn, 1) := by decide +kernel
set_option maxRecDepth 20000 in
theorem ggX5_init_X2_init : GoodIn wsX5_init wsX2_init := goodIn_r _ [22, 23, 2, 3, 24, 25, 26, 27, 28, 29, 30, 31, 32, 33, 34, 35, 36, 37, 38, 39, 40, 41, 42, 43, 44, 45, 46, 6, 47, 48, 49, 50, 51, 52, 53, 54, 55, 56, 57, 58, 59, 60, 61, 62, 63, 64, 65, 66, 67, 82, 83, 84, 85, 86, 87, 88, 89, 90, 91, 109, 110, 111, 112, 113, 114, 115, 116, 117, 118, 119, 120, 121, 122, 123] (by decide +kernel) (by decide +kernel)
set_option maxRecDepth 20000 in
theorem gX5_init_X2_init : GoodIn wsX5_init (wsX2_init) := ggX5_init_X2_init
set_option maxRecDepth 20000 in
theorem ggX5_init_X1_init : GoodIn wsX5_init wsX1_init := goodIn_r _ [69, 70, 2, 3, 28, 71, 72, 73, 74, 75, 98, 99, 100, 101, 102, 103] (by decide +kernel) (by decide +kernel)
set_option maxRecDepth 20000 in
theorem gX5_init_X1_init_n29 : GoodIn wsX5_init (wsX1_init) := ggX5_init_X1_init
set_option maxRecDepth 20000 in
theorem ggX5_init_X3_init : GoodIn wsX5_init wsX3_init := goodIn_r _ [77, 78, 2, 3, 79, 80, 81, 104, 105, 106, 107, 108] (by decide +kernel) (by decide +kernel)
set_option maxRecDepth 20000 in
theorem gX5_init_X3_init_n36 : GoodIn wsX5_init (wsX3_init) := ggX5_init_X3_init
theorem dX5_init_0 : decode cX5_init 0 = .ok (.aload_n 0, 1) := by decide +kernel
theorem dX5_init_1 : decode cX5_init 1 = .ok (.invokespecial 1, 3) := by decide +kernel
theorem dX5_init_4 : decode cX5_init 4 = .ok (.aload_n 0, 1) := by decide +kernel
theorem dX5_init_5 : decode cX5_init 5 = .ok (.new 7, 3) := by decide +kernel
theorem dX5_init_8 : decode cX5_init 8 = .ok (.dup, 1) := by decide +kernel
theorem dX5_init_9 : decode cX5_init 9 = .ok (.invokespecial 9, 3) := by decide +kernel
theorem dX5_init_12 : decode cX5_init 12 = .ok (.putfield 10, 3) := by decide +kernel
theorem dX5_init_15 : decode cX5_init 15 = .ok (.aload_n 0, 1) := by decide +kernel
theorem dX5_init_16 : decode cX5_init 16 = .ok (.new 7, 3) := by decide +kernel
theorem dX5_init_19 : decode cX5_init 19 = .ok (.dup, 1) := by decide +kernel
theorem dX5_init_20 : decode cX5_init 20 = .ok (.invokespecial 9, 3) := by decide +kernel
theorem dX5_init_23 : decode cX5_init 23 = .ok (.putfield 16, 3) := by decide +kernel
theorem dX5_init_26 : decode cX5_init 26 = .ok (.aload_n 0, 1) := by decide +kernel
theorem dX5_init_27 : decode cX5_init 27 = .ok (.iconst 2, 1) := by decide +kernel
theorem dX5_init_28 : decode cX5_init 28 = .ok (.anewarray 7, 3) := by decide +kernel
theorem dX5_init_31 : decode cX5_init 31 = .ok (.dup, 1) := by decide +kernel
theorem dX5_init_32 : decode cX5_init 32 = .ok (.iconst 0, 1) := by decide +kernel
theorem dX5_init_33 : decode cX5_init 33 = .ok (.new 7, 3) := by decide +kernel
theorem dX5_init_36 : decode cX5_init 36 = .ok (.dup, 1) := by decide +kernel
theorem dX5_init_37 : decode cX5_init 37 = .ok (.invokespecial 9, 3) := by decide +kernel
theorem dX5_init_40 : decode cX5_init 40 = .ok (.aastore, 1) := by decide +kernel
theorem dX5_init_41 : decode cX5_init 41 = .ok (.dup, 1) := by decide +kernel
theorem dX5_init_42 : decode cX5_init 42 = .ok (.iconst 1, 1) := by decide +kernel
theorem dX5_init_43 : decode cX5_init 43 = .ok (.new 7, 3) := by decide +kernel
theorem dX5_init_46 : decode cX5_init 46 = .ok (.dup, 1) := by decide +kernel
theorem dX5_init_47 : decode cX5_init 47 = .ok (.invokespecial 9, 3) := by decide +kernel
theorem dX5_init_50 : decode cX5_init 50 = .ok (.aastore, 1) := by decide +kernel
theorem dX5_init_51 : decode cX5_init 51 = .ok (.putfield 19, 3) := by decide +kernel
theorem dX5_init_54 : decode cX5_init 54 = .ok (.aload_n 0, 1) := by decide +kernel
theorem dX5_init_55 : decode cX5_init 55 = .ok (.iconst 2, 1) := by decide +kernel
theorem dX5_init_56 : decode cX5_init 56 = .ok (.newarray .boolean, 2) := by decide +kernel
theorem dX5_init_58 : decode cX5_init 58 = .ok (.putfield 23, 3) := by decide +kernel
theorem dX5_init_61 : decode cX5_init 61 = .ok (.aload_n 0, 1) := by decide +kernel
theorem dX5_init_62 : decode cX5_init 62 = .ok (.new 27, 3) := by decide +kernel
theorem dX5_init_65 : decode cX5_init 65 = .ok (.dup, 1) := by decide +kernel
theorem dX5_init_66 : decode cX5_init 66 = .ok (.invokespecial 29, 3) := by decide +kernel
theorem dX5_init_69 : decode cX5_init 69 = .ok (.putfield 30, 3) := by decide +kernel
theorem dX5_init_72 : decode cX5_init 72 = .ok (.aload_n 0, 1) := by decide +kernel
theorem dX5_init_73 : decode cX5_init 73 = .ok (.new 34, 3) := by decide +kernel
theorem dX5_init_76 : decode cX5_init 76 = .ok (.dup, 1) := by decide +kernel
theorem dX5_init_77 : decode cX5_init 77 = .ok (.invokespecial 36, 3) := by decide +kernel
theorem dX5_init_80 : decode cX5_init 80 = .ok (.putfield 37, 3) := by decide +kernel
theorem dX5_init_83 : decode cX5_init 83 = .ok (.return_, 1) := by decide +kernel
set_option maxRecDepth 20000 in
theorem ggX5_addDitch_X2_hasDitch : GoodIn wsX5_addDitch wsX2_hasDitch := goodIn_r _ [7, 8, 40, 41, 42, 43, 44, 45, 46, 47, 48, 49] (by decide +kernel) (by decide +kernel)
set_option maxRecDepth 20000 in
theorem gX5_addDitch_X2_hasDitch : GoodIn wsX5_addDitch (wsV RX5 41 RX2 yX2_hasDitch wsX2_hasDitch) := goodIn_app (goodIn_of _ (by decide +kernel)) ggX5_addDitch_X2_hasDitch
set_option maxRecDepth 20000 in
theorem ggX5_addDitch_X5_areGateAndLoss : GoodIn wsX5_addDitch wsX5_areGateAndLoss := goodIn_r _ [12, 13, 14, 11, 15] (by decide +kernel) (by decide +kernel)
set_option maxRecDepth 20000 in
theorem gX5_addDitch_X5_areGateAndLoss : GoodIn wsX5_addDitch (va_wsS RX5 45 yX5_areGateAndLoss wsX5_areGateAndLoss) := goodIn_app (goodIn_of _ (by decide +kernel)) ggX5_addDitch_X5_areGateAndLoss
set_option maxRecDepth 20000 in
theorem ggX5_addDitch_X2_hasRoomForDitch : GoodIn wsX5_addDitch wsX2_hasRoomForDitch := goodIn_r _ [19, 8, 40, 41, 42, 43, 44, 45, 46, 47, 48, 49] (by decide +kernel) (by decide +kernel)
set_option maxRecDepth 20000 in
theorem gX5_addDitch_X2_hasRoomForDitch : GoodIn wsX5_addDitch (wsV RX5 49 RX2 yX2_hasRoomForDitch wsX2_hasRoomForDitch) := goodIn_app (goodIn_of _ (by decide +kernel)) ggX5_addDitch_X2_hasRoomForDitch
set_option maxRecDepth 20000 in
theorem ggX5_addDitch_X2_putDitch : GoodIn wsX5_addDitch wsX2_putDitch := goodIn_r _ [23, 24, 8, 25, 17, 18, 6, 19, 26, 27, 28, 29, 30, 31, 32, 33, 40, 41, 42, 43, 44, 45, 46, 47, 48, 49, 50, 51, 52] (by decide +kernel) (by decide +kernel)
set_option maxRecDepth 20000 in
theorem gX5_addDitch_X2_putDitch : GoodIn wsX5_addDitch (wsV RX5 53 RX2 yX2_putDitch wsX2_putDitch) := goodIn_app (goodIn_of _ (by decide +kernel)) ggX5_addDitch_X2_putDitch
theorem dX5_addDitch_0 : decode cX5_addDitch 0 = .ok (.aload_n 0, 1) := by decide +kernel
theorem dX5_addDitch_1 : decode cX5_addDitch 1 = .ok (.getfield 10, 3) := by decide +kernel
theorem dX5_addDitch_4 : decode cX5_addDitch 4 = .ok (.iload_n 1, 1) := by decide +kernel
theorem dX5_addDitch_5 : decode cX5_addDitch 5 = .ok (.invokevirtual 41, 3) := by decide +kernel
theorem dX5_addDitch_8 : decode cX5_addDitch 8 = .ok (.ifCond .ne 6, 3) := by decide +kernel
theorem dX5_addDitch_11 : decode cX5_addDitch 11 = .ok (.bipush (-101), 2) := by decide +kernel
theorem dX5_addDitch_13 : decode cX5_addDitch 13 = .ok (.ireturn, 1) := by decide +kernel
theorem dX5_addDitch_14 : decode cX5_addDitch 14 = .ok (.iload_n 2, 1) := by decide +kernel
theorem dX5_addDitch_15 : decode cX5_addDitch 15 = .ok (.iload_n 3, 1) := by decide +kernel
theorem dX5_addDitch_16 : decode cX5_addDitch 16 = .ok (.invokestatic 45, 3) := by decide +kernel
theorem dX5_addDitch_19 : decode cX5_addDitch 19 = .ok (.ifCond .ne 6, 3) := by decide +kernel
theorem dX5_addDitch_22 : decode cX5_addDitch 22 = .ok (.bipush (-102), 2) := by decide +kernel
theorem dX5_addDitch_24 : decode cX5_addDitch 24 = .ok (.ireturn, 1) := by decide +kernel
theorem dX5_addDitch_25 : decode cX5_addDitch 25 = .ok (.aload_n 0, 1) := by decide +kernel
theorem dX5_addDitch_26 : decode cX5_addDitch 26 = .ok (.getfield 10, 3) := by decide +kernel
theorem dX5_addDitch_29 : decode cX5_addDitch 29 = .ok (.invokevirtual 49, 3) := by decide +kernel
theorem dX5_addDitch_32 : decode cX5_addDitch 32 = .ok (.ifCond .ne 6, 3) := by decide +kernel
theorem dX5_addDitch_35 : decode cX5_addDitch 35 = .ok (.bipush (-104), 2) := by decide +kernel
theorem dX5_addDitch_37 : decode cX5_addDitch 37 = .ok (.ireturn, 1) := by decide +kernel
theorem dX5_addDitch_38 : decode cX5_addDitch 38 = .ok (.aload_n 0, 1) := by decide +kernel
theorem dX5_addDitch_39 : decode cX5_addDitch 39 = .ok (.getfield 10, 3) := by decide +kernel
theorem dX5_addDitch_42 : decode cX5_addDitch 42 = .ok (.iload_n 1, 1) := by decide +kernel
theorem dX5_addDitch_43 : decode cX5_addDitch 43 = .ok (.iload_n 2, 1) := by decide +kernel
theorem dX5_addDitch_44 : decode cX5_addDitch 44 = .ok (.iload_n 3, 1) := by decide +kernel
theorem dX5_addDitch_45 : decode cX5_addDitch 45 = .ok (.invokevirtual 53, 3) := by decide +kernel
theorem dX5_addDitch_48 : decode cX5_addDitch 48 = .ok (.aload_n 0, 1) := by decide +kernel
theorem dX5_addDitch_49 : decode cX5_addDitch 49 = .ok (.getfield 10, 3) := by decide +kernel
theorem dX5_addDitch_52 : decode cX5_addDitch 52 = .ok (.getfield 57, 3) := by decide +kernel
theorem dX5_addDitch_55 : decode cX5_addDitch 55 = .ok (.iconst 1, 1) := by decide +kernel
theorem dX5_addDitch_56 : decode cX5_addDitch 56 = .ok (.isub, 1) := by decide +kernel
theorem dX5_addDitch_57 : decode cX5_addDitch 57 = .ok (.ireturn, 1) := by decide +kernel
set_option maxRecDepth 20000 in
theorem ggX5_setDitch_X2_hasDitch : GoodIn wsX5_setDitch wsX2_hasDitch := goodIn_r _ [9, 10, 24, 25, 26, 27, 28, 29, 30, 31, 32, 33] (by decide +kernel) (by decide +kernel)
set_option maxRecDepth 20000 in
theorem gX5_setDitch_X2_hasDitch : GoodIn wsX5_setDitch (wsV RX5 41 RX2 yX2_hasDitch wsX2_hasDitch) := goodIn_app (goodIn_of _ (by decide +kernel)) ggX5_setDitch_X2_hasDitch
set_option maxRecDepth 20000 in
theorem ggX5_setDitch_X5_areGateAndLoss : GoodIn wsX5_setDitch wsX5_areGateAndLoss := goodIn_r _ [14, 15, 16, 13, 17] (by decide +kernel) (by decide +kernel)
set_option maxRecDepth 20000 in
theorem gX5_setDitch_X5_areGateAndLoss : GoodIn wsX5_setDitch (va_wsS RX5 45 yX5_areGateAndLoss wsX5_areGateAndLoss) := goodIn_app (goodIn_of _ (by decide +kernel)) ggX5_setDitch_X5_areGateAndLoss
theorem dX5_setDitch_0 : decode cX5_setDitch 0 = .ok (.aload_n 0, 1) := by decide +kernel
theorem dX5_setDitch_1 : decode cX5_setDitch 1 = .ok (.getfield 10, 3) := by decide +kernel
theorem dX5_setDitch_4 : decode cX5_setDitch 4 = .ok (.iload_n 1, 1) := by decide +kernel
theorem dX5_setDitch_5 : decode cX5_setDitch 5 = .ok (.invokevirtual 41, 3) := by decide +kernel
theorem dX5_setDitch_8 : decode cX5_setDitch 8 = .ok (.ifCond .ne 6, 3) := by decide +kernel
theorem dX5_setDitch_11 : decode cX5_setDitch 11 = .ok (.bipush (-101), 2) := by decide +kernel
theorem dX5_setDitch_13 : decode cX5_setDitch 13 = .ok (.ireturn, 1) := by decide +kernel
theorem dX5_setDitch_14 : decode cX5_setDitch 14 = .ok (.iload_n 2, 1) := by decide +kernel
theorem dX5_setDitch_15 : decode cX5_setDitch 15 = .ok (.iload_n 3, 1) := by decide +kernel
theorem dX5_setDitch_16 : decode cX5_setDitch 16 = .ok (.invokestatic 45, 3) := by decide +kernel
theorem dX5_setDitch_19 : decode cX5_setDitch 19 = .ok (.ifCond .ne 6, 3) := by decide +kernel
theorem dX5_setDitch_22 : decode cX5_setDitch 22 = .ok (.bipush (-102), 2) := by decide +kernel
theorem dX5_setDitch_24 : decode cX5_setDitch 24 = .ok (.ireturn, 1) := by decide +kernel
theorem dX5_setDitch_25 : decode cX5_setDitch 25 = .ok (.aload_n 0, 1) := by decide +kernel
theorem dX5_setDitch_26 : decode cX5_setDitch 26 = .ok (.getfield 10, 3) := by decide +kernel
theorem dX5_setDitch_29 : decode cX5_setDitch 29 = .ok (.getfield 61, 3) := by decide +kernel
theorem dX5_setDitch_32 : decode cX5_setDitch 32 = .ok (.iload_n 1, 1) := by decide +kernel
theorem dX5_setDitch_33 : decode cX5_setDitch 33 = .ok (.aaload, 1) := by decide +kernel
theorem dX5_setDitch_34 : decode cX5_setDitch 34 = .ok (.astore 4, 2) := by decide +kernel
theorem dX5_setDitch_36 : decode cX5_setDitch 36 = .ok (.aload 4, 2) := by decide +kernel
theorem dX5_setDitch_38 : decode cX5_setDitch 38 = .ok (.getfield 65, 3) := by decide +kernel
theorem dX5_setDitch_41 : decode cX5_setDitch 41 = .ok (.istore 5, 2) := by decide +kernel
theorem dX5_setDitch_43 : decode cX5_setDitch 43 = .ok (.aload 4, 2) := by decide +kernel
theorem dX5_setDitch_45 : decode cX5_setDitch 45 = .ok (.iload_n 2, 1) := by decide +kernel
theorem dX5_setDitch_46 : decode cX5_setDitch 46 = .ok (.putfield 65, 3) := by decide +kernel
theorem dX5_setDitch_49 : decode cX5_setDitch 49 = .ok (.aload 4, 2) := by decide +kernel
theorem dX5_setDitch_51 : decode cX5_setDitch 51 = .ok (.iload_n 3, 1) := by decide +kernel
theorem dX5_setDitch_52 : decode cX5_setDitch 52 = .ok (.putfield 70, 3) := by decide +kernel
theorem dX5_setDitch_55 : decode cX5_setDitch 55 = .ok (.iload 5, 2) := by decide +kernel
theorem dX5_setDitch_57 : decode cX5_setDitch 57 = .ok (.ireturn, 1) := by decide +kernel
set_option maxRecDepth 20000 in
theorem ggX5_addUser_X2_hasDitch : GoodIn wsX5_addUser wsX2_hasDitch := goodIn_r _ [7, 8, 49, 50, 51, 52, 53, 54, 55, 56, 57, 58] (by decide +kernel) (by decide +kernel)
set_option maxRecDepth 20000 in
theorem gX5_addUser_X2_hasDitch : GoodIn wsX5_addUser (wsV RX5 41 RX2 yX2_hasDitch wsX2_hasDitch) := goodIn_app (goodIn_of _ (by decide +kernel)) ggX5_addUser_X2_hasDitch
set_option maxRecDepth 20000 in
theorem ggX5_addUser_X5_isWithin : GoodIn wsX5_addUser wsX5_isWithin := goodIn_r _ [12] (by decide +kernel) (by decide +kernel)
set_option maxRecDepth 20000 in
theorem gX5_addUser_X5_isWithin : GoodIn wsX5_addUser (va_wsS RX5 73 yX5_isWithin wsX5_isWithin) := goodIn_app (goodIn_of _ (by decide +kernel)) ggX5_addUser_X5_isWithin
set_option maxRecDepth 20000 in
theorem ggX5_addUser_X2_hasRoomForUser : GoodIn wsX5_addUser wsX2_hasRoomForUser := goodIn_r _ [16, 17, 49, 50, 51, 52, 53, 54, 55, 56, 57, 58] (by decide +kernel) (by decide +kernel)
set_option maxRecDepth 20000 in
theorem gX5_addUser_X2_hasRoomForUser : GoodIn wsX5_addUser (wsV RX5 77 RX2 yX2_hasRoomForUser wsX2_hasRoomForUser) := goodIn_app (goodIn_of _ (by decide +kernel)) ggX5_addUser_X2_hasRoomForUser
set_option maxRecDepth 20000 in
theorem ggX5_addUser_X2_putUser : GoodIn wsX5_addUser wsX2_putUser := goodIn_r _ [21, 17, 22, 23, 24, 25, 14, 15, 6, 16, 26, 27, 28, 29, 30, 31, 32, 33, 34, 35, 36, 37, 38, 39, 40, 41, 42, 49, 50, 51, 52, 53, 54, 55, 56, 57, 58, 59, 60, 61, 62, 63, 64, 65, 66, 67, 68, 69, 70] (by decide +kernel) (by decide +kernel)
set_option maxRecDepth 20000 in
theorem gX5_addUser_X2_putUser : GoodIn wsX5_addUser (wsV RX5 80 RX2 yX2_putUser wsX2_putUser) := goodIn_app (goodIn_of _ (by decide +kernel)) ggX5_addUser_X2_putUser
theorem dX5_addUser_0 : decode cX5_addUser 0 = .ok (.aload_n 0, 1) := by decide +kernel
theorem dX5_addUser_1 : decode cX5_addUser 1 = .ok (.getfield 10, 3) := by decide +kernel
theorem dX5_addUser_4 : decode cX5_addUser 4 = .ok (.iload_n 1, 1) := by decide +kernel
theorem dX5_addUser_5 : decode cX5_addUser 5 = .ok (.invokevirtual 41, 3) := by decide +kernel
theorem dX5_addUser_8 : decode cX5_addUser 8 = .ok (.ifCond .ne 6, 3) := by decide +kernel
theorem dX5_addUser_11 : decode cX5_addUser 11 = .ok (.bipush (-101), 2) := by decide +kernel
theorem dX5_addUser_13 : decode cX5_addUser 13 = .ok (.ireturn, 1) := by decide +kernel
theorem dX5_addUser_14 : decode cX5_addUser 14 = .ok (.iload_n 2, 1) := by decide +kernel
theorem dX5_addUser_15 : decode cX5_addUser 15 = .ok (.sipush 1800, 3) := by decide +kernel
theorem dX5_addUser_18 : decode cX5_addUser 18 = .ok (.sipush 2099, 3) := by decide +kernel
theorem dX5_addUser_21 : decode cX5_addUser 21 = .ok (.invokestatic 73, 3) := by decide +kernel
theorem dX5_addUser_24 : decode cX5_addUser 24 = .ok (.ifCond .eq 13, 3) := by decide +kernel
theorem dX5_addUser_27 : decode cX5_addUser 27 = .ok (.iload_n 3, 1) := by decide +kernel
theorem dX5_addUser_28 : decode cX5_addUser 28 = .ok (.iconst 0, 1) := by decide +kernel
theorem dX5_addUser_29 : decode cX5_addUser 29 = .ok (.bipush 60, 2) := by decide +kernel
theorem dX5_addUser_31 : decode cX5_addUser 31 = .ok (.invokestatic 73, 3) := by decide +kernel
theorem dX5_addUser_34 : decode cX5_addUser 34 = .ok (.ifCond .ne 6, 3) := by decide +kernel
theorem dX5_addUser_37 : decode cX5_addUser 37 = .ok (.bipush (-102), 2) := by decide +kernel
theorem dX5_addUser_39 : decode cX5_addUser 39 = .ok (.ireturn, 1) := by decide +kernel
theorem dX5_addUser_40 : decode cX5_addUser 40 = .ok (.aload_n 0, 1) := by decide +kernel
theorem dX5_addUser_41 : decode cX5_addUser 41 = .ok (.getfield 10, 3) := by decide +kernel
theorem dX5_addUser_44 : decode cX5_addUser 44 = .ok (.invokevirtual 77, 3) := by decide +kernel
theorem dX5_addUser_47 : decode cX5_addUser 47 = .ok (.ifCond .ne 6, 3) := by decide +kernel
theorem dX5_addUser_50 : decode cX5_addUser 50 = .ok (.bipush (-104), 2) := by decide +kernel
theorem dX5_addUser_52 : decode cX5_addUser 52 = .ok (.ireturn, 1) := by decide +kernel
theorem dX5_addUser_53 : decode cX5_addUser 53 = .ok (.aload_n 0, 1) := by decide +kernel
theorem dX5_addUser_54 : decode cX5_addUser 54 = .ok (.getfield 10, 3) := by decide +kernel
theorem dX5_addUser_57 : decode cX5_addUser 57 = .ok (.iload_n 1, 1) := by decide +kernel
theorem dX5_addUser_58 : decode cX5_addUser 58 = .ok (.iload_n 2, 1) := by decide +kernel
theorem dX5_addUser_59 : decode cX5_addUser 59 = .ok (.iload_n 3, 1) := by decide +kernel
theorem dX5_addUser_60 : decode cX5_addUser 60 = .ok (.invokevirtual 80, 3) := by decide +kernel
theorem dX5_addUser_63 : decode cX5_addUser 63 = .ok (.aload_n 0, 1) := by decide +kernel
theorem dX5_addUser_64 : decode cX5_addUser 64 = .ok (.getfield 10, 3) := by decide +kernel
theorem dX5_addUser_67 : decode cX5_addUser 67 = .ok (.getfield 83, 3) := by decide +kernel
theorem dX5_addUser_70 : decode cX5_addUser 70 = .ok (.iconst 1, 1) := by decide +kernel
theorem dX5_addUser_71 : decode cX5_addUser 71 = .ok (.isub, 1) := by decide +kernel
theorem dX5_addUser_72 : decode cX5_addUser 72 = .ok (.ireturn, 1) := by decide +kernel
set_option maxRecDepth 20000 in
theorem ggX5_setField_X2_hasUser : GoodIn wsX5_setField wsX2_hasUser := goodIn_r _ [10, 11, 25, 26, 27, 28, 29, 30, 31, 32, 33, 34] (by decide +kernel) (by decide +kernel)
set_option maxRecDepth 20000 in
theorem gX5_setField_X2_hasUser : GoodIn wsX5_setField (wsV RX5 86 RX2 yX2_hasUser wsX2_hasUser) := goodIn_app (goodIn_of _ (by decide +kernel)) ggX5_setField_X2_hasUser
set_option maxRecDepth 20000 in
theorem ggX5_setField_X5_isWithin : GoodIn wsX5_setField wsX5_isWithin := goodIn_r _ [15] (by decide +kernel) (by decide +kernel)
set_option maxRecDepth 20000 in
theorem gX5_setField_X5_isWithin : GoodIn wsX5_setField (va_wsS RX5 73 yX5_isWithin wsX5_isWithin) := goodIn_app (goodIn_of _ (by decide +kernel)) ggX5_setField_X5_isWithin
set_option maxRecDepth 20000 in
theorem ggX5_setField_X5_areHours : GoodIn wsX5_setField wsX5_areHours := goodIn_r _ [18, 12, 13, 14, 15] (by decide +kernel) (by decide +kernel)
set_option maxRecDepth 20000 in
theorem gX5_setField_X5_areHours : GoodIn wsX5_setField (va_wsS RX5 89 yX5_areHours wsX5_areHours) := goodIn_app (goodIn_of _ (by decide +kernel)) ggX5_setField_X5_areHours
theorem dX5_setField_0 : decode cX5_setField 0 = .ok (.aload_n 0, 1) := by decide +kernel
theorem dX5_setField_1 : decode cX5_setField 1 = .ok (.getfield 10, 3) := by decide +kernel
theorem dX5_setField_4 : decode cX5_setField 4 = .ok (.iload_n 1, 1) := by decide +kernel
theorem dX5_setField_5 : decode cX5_setField 5 = .ok (.invokevirtual 86, 3) := by decide +kernel
theorem dX5_setField_8 : decode cX5_setField 8 = .ok (.ifCond .ne 6, 3) := by decide +kernel
theorem dX5_setField_11 : decode cX5_setField 11 = .ok (.bipush (-101), 2) := by decide +kernel
theorem dX5_setField_13 : decode cX5_setField 13 = .ok (.ireturn, 1) := by decide +kernel
theorem dX5_setField_14 : decode cX5_setField 14 = .ok (.iload_n 2, 1) := by decide +kernel
theorem dX5_setField_15 : decode cX5_setField 15 = .ok (.iconst 0, 1) := by decide +kernel
theorem dX5_setField_16 : decode cX5_setField 16 = .ok (.bipush 60, 2) := by decide +kernel
theorem dX5_setField_18 : decode cX5_setField 18 = .ok (.invokestatic 73, 3) := by decide +kernel
theorem dX5_setField_21 : decode cX5_setField 21 = .ok (.ifCond .eq 12, 3) := by decide +kernel
theorem dX5_setField_24 : decode cX5_setField 24 = .ok (.iload_n 3, 1) := by decide +kernel
theorem dX5_setField_25 : decode cX5_setField 25 = .ok (.iload 4, 2) := by decide +kernel
theorem dX5_setField_27 : decode cX5_setField 27 = .ok (.invokestatic 89, 3) := by decide +kernel
theorem dX5_setField_30 : decode cX5_setField 30 = .ok (.ifCond .ne 6, 3) := by decide +kernel
theorem dX5_setField_33 : decode cX5_setField 33 = .ok (.bipush (-102), 2) := by decide +kernel
theorem dX5_setField_35 : decode cX5_setField 35 = .ok (.ireturn, 1) := by decide +kernel
theorem dX5_setField_36 : decode cX5_setField 36 = .ok (.aload_n 0, 1) := by decide +kernel
theorem dX5_setField_37 : decode cX5_setField 37 = .ok (.getfield 10, 3) := by decide +kernel
theorem dX5_setField_40 : decode cX5_setField 40 = .ok (.getfield 92, 3) := by decide +kernel
theorem dX5_setField_43 : decode cX5_setField 43 = .ok (.iload_n 1, 1) := by decide +kernel
theorem dX5_setField_44 : decode cX5_setField 44 = .ok (.aaload, 1) := by decide +kernel
theorem dX5_setField_45 : decode cX5_setField 45 = .ok (.astore 5, 2) := by decide +kernel
theorem dX5_setField_47 : decode cX5_setField 47 = .ok (.aload 5, 2) := by decide +kernel
theorem dX5_setField_49 : decode cX5_setField 49 = .ok (.getfield 96, 3) := by decide +kernel
theorem dX5_setField_52 : decode cX5_setField 52 = .ok (.istore 6, 2) := by decide +kernel
theorem dX5_setField_54 : decode cX5_setField 54 = .ok (.aload 5, 2) := by decide +kernel
theorem dX5_setField_56 : decode cX5_setField 56 = .ok (.iload_n 2, 1) := by decide +kernel
theorem dX5_setField_57 : decode cX5_setField 57 = .ok (.putfield 96, 3) := by decide +kernel
theorem dX5_setField_60 : decode cX5_setField 60 = .ok (.aload 5, 2) := by decide +kernel
theorem dX5_setField_62 : decode cX5_setField 62 = .ok (.iload_n 3, 1) := by decide +kernel
theorem dX5_setField_63 : decode cX5_setField 63 = .ok (.putfield 101, 3) := by decide +kernel
theorem dX5_setField_66 : decode cX5_setField 66 = .ok (.aload 5, 2) := by decide +kernel
theorem dX5_setField_68 : decode cX5_setField 68 = .ok (.iload 4, 2) := by decide +kernel
theorem dX5_setField_70 : decode cX5_setField 70 = .ok (.putfield 104, 3) := by decide +kernel
theorem dX5_setField_73 : decode cX5_setField 73 = .ok (.iload 6, 2) := by decide +kernel
theorem dX5_setField_75 : decode cX5_setField 75 = .ok (.ireturn, 1) := by decide +kernel
set_option maxRecDepth 20000 in
theorem ggX5_setPond_X2_hasUser : GoodIn wsX5_setPond wsX2_hasUser := goodIn_r _ [14, 15, 26, 27, 28, 29, 30, 31, 32, 33, 34, 35] (by decide +kernel) (by decide +kernel)
set_option maxRecDepth 20000 in
theorem gX5_setPond_X2_hasUser : GoodIn wsX5_setPond (wsV RX5 86 RX2 yX2_hasUser wsX2_hasUser) := goodIn_app (goodIn_of _ (by decide +kernel)) ggX5_setPond_X2_hasUser
set_option maxRecDepth 20000 in
theorem ggX5_setPond_X5_isWithin : GoodIn wsX5_setPond wsX5_isWithin := goodIn_r _ [19] (by decide +kernel) (by decide +kernel)
set_option maxRecDepth 20000 in
theorem gX5_setPond_X5_isWithin : GoodIn wsX5_setPond (va_wsS RX5 73 yX5_isWithin wsX5_isWithin) := goodIn_app (goodIn_of _ (by decide +kernel)) ggX5_setPond_X5_isWithin
theorem dX5_setPond_0 : decode cX5_setPond 0 = .ok (.aload_n 0, 1) := by decide +kernel
theorem dX5_setPond_1 : decode cX5_setPond 1 = .ok (.getfield 10, 3) := by decide +kernel
theorem dX5_setPond_4 : decode cX5_setPond 4 = .ok (.iload_n 1, 1) := by decide +kernel
theorem dX5_setPond_5 : decode cX5_setPond 5 = .ok (.invokevirtual 86, 3) := by decide +kernel
theorem dX5_setPond_8 : decode cX5_setPond 8 = .ok (.ifCond .ne 6, 3) := by decide +kernel
theorem dX5_setPond_11 : decode cX5_setPond 11 = .ok (.bipush (-101), 2) := by decide +kernel
theorem dX5_setPond_13 : decode cX5_setPond 13 = .ok (.ireturn, 1) := by decide +kernel
theorem dX5_setPond_14 : decode cX5_setPond 14 = .ok (.iload_n 2, 1) := by decide +kernel
theorem dX5_setPond_15 : decode cX5_setPond 15 = .ok (.iconst 0, 1) := by decide +kernel
theorem dX5_setPond_16 : decode cX5_setPond 16 = .ok (.sipush 500, 3) := by decide +kernel
theorem dX5_setPond_19 : decode cX5_setPond 19 = .ok (.invokestatic 73, 3) := by decide +kernel
theorem dX5_setPond_22 : decode cX5_setPond 22 = .ok (.ifCond .eq 13, 3) := by decide +kernel
theorem dX5_setPond_25 : decode cX5_setPond 25 = .ok (.iload_n 3, 1) := by decide +kernel
theorem dX5_setPond_26 : decode cX5_setPond 26 = .ok (.iconst 0, 1) := by decide +kernel
theorem dX5_setPond_27 : decode cX5_setPond 27 = .ok (.bipush 20, 2) := by decide +kernel
theorem dX5_setPond_29 : decode cX5_setPond 29 = .ok (.invokestatic 73, 3) := by decide +kernel
theorem dX5_setPond_32 : decode cX5_setPond 32 = .ok (.ifCond .ne 6, 3) := by decide +kernel
theorem dX5_setPond_35 : decode cX5_setPond 35 = .ok (.bipush (-102), 2) := by decide +kernel
theorem dX5_setPond_37 : decode cX5_setPond 37 = .ok (.ireturn, 1) := by decide +kernel
theorem dX5_setPond_38 : decode cX5_setPond 38 = .ok (.aload_n 0, 1) := by decide +kernel
theorem dX5_setPond_39 : decode cX5_setPond 39 = .ok (.getfield 10, 3) := by decide +kernel
theorem dX5_setPond_42 : decode cX5_setPond 42 = .ok (.getfield 92, 3) := by decide +kernel
theorem dX5_setPond_45 : decode cX5_setPond 45 = .ok (.iload_n 1, 1) := by decide +kernel
theorem dX5_setPond_46 : decode cX5_setPond 46 = .ok (.aaload, 1) := by decide +kernel
theorem dX5_setPond_47 : decode cX5_setPond 47 = .ok (.astore 4, 2) := by decide +kernel
theorem dX5_setPond_49 : decode cX5_setPond 49 = .ok (.aload 4, 2) := by decide +kernel
theorem dX5_setPond_51 : decode cX5_setPond 51 = .ok (.iload_n 2, 1) := by decide +kernel
theorem dX5_setPond_52 : decode cX5_setPond 52 = .ok (.putfield 107, 3) := by decide +kernel
theorem dX5_setPond_55 : decode cX5_setPond 55 = .ok (.aload 4, 2) := by decide +kernel
theorem dX5_setPond_57 : decode cX5_setPond 57 = .ok (.iload_n 3, 1) := by decide +kernel
theorem dX5_setPond_58 : decode cX5_setPond 58 = .ok (.putfield 110, 3) := by decide +kernel
theorem dX5_setPond_61 : decode cX5_setPond 61 = .ok (.aload 4, 2) := by decide +kernel
theorem dX5_setPond_63 : decode cX5_setPond 63 = .ok (.aload 4, 2) := by decide +kernel
theorem dX5_setPond_65 : decode cX5_setPond 65 = .ok (.getfield 113, 3) := by decide +kernel
theorem dX5_setPond_68 : decode cX5_setPond 68 = .ok (.iload_n 2, 1) := by decide +kernel
theorem dX5_setPond_69 : decode cX5_setPond 69 = .ok (.invokestatic 116, 3) := by decide +kernel
theorem dX5_setPond_72 : decode cX5_setPond 72 = .ok (.putfield 113, 3) := by decide +kernel
theorem dX5_setPond_75 : decode cX5_setPond 75 = .ok (.aload 4, 2) := by decide +kernel
theorem dX5_setPond_77 : decode cX5_setPond 77 = .ok (.getfield 113, 3) := by decide +kernel
theorem dX5_setPond_80 : decode cX5_setPond 80 = .ok (.ireturn, 1) := by decide +kernel
set_option maxRecDepth 20000 in
theorem ggX5_setTurn_X2_hasUser : GoodIn wsX5_setTurn wsX2_hasUser := goodIn_r _ [8, 9, 20, 21, 22, 23, 24, 25, 26, 27, 28, 29] (by decide +kernel) (by decide +kernel)
set_option maxRecDepth 20000 in
theorem gX5_setTurn_X2_hasUser : GoodIn wsX5_setTurn (wsV RX5 86 RX2 yX2_hasUser wsX2_hasUser) := goodIn_app (goodIn_of _ (by decide +kernel)) ggX5_setTurn_X2_hasUser
set_option maxRecDepth 20000 in
theorem ggX5_setTurn_X5_isWithin : GoodIn wsX5_setTurn wsX5_isWithin := goodIn_r _ [13] (by decide +kernel) (by decide +kernel)
set_option maxRecDepth 20000 in
theorem gX5_setTurn_X5_isWithin : GoodIn wsX5_setTurn (va_wsS RX5 73 yX5_isWithin wsX5_isWithin) := goodIn_app (goodIn_of _ (by decide +kernel)) ggX5_setTurn_X5_isWithin
theorem dX5_setTurn_0 : decode cX5_setTurn 0 = .ok (.aload_n 0, 1) := by decide +kernel
theorem dX5_setTurn_1 : decode cX5_setTurn 1 = .ok (.getfield 10, 3) := by decide +kernel
theorem dX5_setTurn_4 : decode cX5_setTurn 4 = .ok (.iload_n 1, 1) := by decide +kernel
theorem dX5_setTurn_5 : decode cX5_setTurn 5 = .ok (.invokevirtual 86, 3) := by decide +kernel
theorem dX5_setTurn_8 : decode cX5_setTurn 8 = .ok (.ifCond .ne 6, 3) := by decide +kernel
theorem dX5_setTurn_11 : decode cX5_setTurn 11 = .ok (.bipush (-101), 2) := by decide +kernel
theorem dX5_setTurn_13 : decode cX5_setTurn 13 = .ok (.ireturn, 1) := by decide +kernel
theorem dX5_setTurn_14 : decode cX5_setTurn 14 = .ok (.iload_n 2, 1) := by decide +kernel
theorem dX5_setTurn_15 : decode cX5_setTurn 15 = .ok (.iconst 0, 1) := by decide +kernel
theorem dX5_setTurn_16 : decode cX5_setTurn 16 = .ok (.bipush 24, 2) := by decide +kernel
theorem dX5_setTurn_18 : decode cX5_setTurn 18 = .ok (.invokestatic 73, 3) := by decide +kernel
theorem dX5_setTurn_21 : decode cX5_setTurn 21 = .ok (.ifCond .ne 6, 3) := by decide +kernel
theorem dX5_setTurn_24 : decode cX5_setTurn 24 = .ok (.bipush (-102), 2) := by decide +kernel
theorem dX5_setTurn_26 : decode cX5_setTurn 26 = .ok (.ireturn, 1) := by decide +kernel
theorem dX5_setTurn_27 : decode cX5_setTurn 27 = .ok (.aload_n 0, 1) := by decide +kernel
theorem dX5_setTurn_28 : decode cX5_setTurn 28 = .ok (.getfield 10, 3) := by decide +kernel
theorem dX5_setTurn_31 : decode cX5_setTurn 31 = .ok (.getfield 92, 3) := by decide +kernel
theorem dX5_setTurn_34 : decode cX5_setTurn 34 = .ok (.iload_n 1, 1) := by decide +kernel
theorem dX5_setTurn_35 : decode cX5_setTurn 35 = .ok (.aaload, 1) := by decide +kernel
theorem dX5_setTurn_36 : decode cX5_setTurn 36 = .ok (.astore_n 3, 1) := by decide +kernel
theorem dX5_setTurn_37 : decode cX5_setTurn 37 = .ok (.aload_n 3, 1) := by decide +kernel
theorem dX5_setTurn_38 : decode cX5_setTurn 38 = .ok (.getfield 122, 3) := by decide +kernel
theorem dX5_setTurn_41 : decode cX5_setTurn 41 = .ok (.istore 4, 2) := by decide +kernel
theorem dX5_setTurn_43 : decode cX5_setTurn 43 = .ok (.aload_n 3, 1) := by decide +kernel
theorem dX5_setTurn_44 : decode cX5_setTurn 44 = .ok (.iload_n 2, 1) := by decide +kernel
theorem dX5_setTurn_45 : decode cX5_setTurn 45 = .ok (.putfield 122, 3) := by decide +kernel
theorem dX5_setTurn_48 : decode cX5_setTurn 48 = .ok (.iload 4, 2) := by decide +kernel
theorem dX5_setTurn_50 : decode cX5_setTurn 50 = .ok (.ireturn, 1) := by decide +kernel
set_option maxRecDepth 20000 in
theorem ggX5_setSupply_X5_areHours : GoodIn wsX5_setSupply wsX5_areHours := goodIn_r _ [6, 7, 8, 5, 9] (by decide +kernel) (by decide +kernel)
set_option maxRecDepth 20000 in
theorem gX5_setSupply_X5_areHours : GoodIn wsX5_setSupply (va_wsS RX5 89 yX5_areHours wsX5_areHours) := goodIn_app (goodIn_of _ (by decide +kernel)) ggX5_setSupply_X5_areHours
set_option maxRecDepth 20000 in
theorem ggX5_setSupply_X5_isWithin : GoodIn wsX5_setSupply wsX5_isWithin := goodIn_r _ [9] (by decide +kernel) (by decide +kernel)
set_option maxRecDepth 20000 in
theorem gX5_setSupply_X5_isWithin : GoodIn wsX5_setSupply (va_wsS RX5 73 yX5_isWithin wsX5_isWithin) := goodIn_app (goodIn_of _ (by decide +kernel)) ggX5_setSupply_X5_isWithin
set_option maxRecDepth 20000 in
theorem ggX5_setSupply_X2_putSupply : GoodIn wsX5_setSupply wsX2_putSupply := goodIn_r _ [14, 15, 16, 17, 18, 19, 26, 27, 28, 29, 30, 31, 32, 33, 34, 35] (by decide +kernel) (by decide +kernel)
set_option maxRecDepth 20000 in
theorem gX5_setSupply_X2_putSupply : GoodIn wsX5_setSupply (wsV RX5 129 RX2 yX2_putSupply wsX2_putSupply) := goodIn_app (goodIn_of _ (by decide +kernel)) ggX5_setSupply_X2_putSupply
theorem dX5_setSupply_0 : decode cX5_setSupply 0 = .ok (.iload_n 1, 1) := by decide +kernel
theorem dX5_setSupply_1 : decode cX5_setSupply 1 = .ok (.iload_n 2, 1) := by decide +kernel
theorem dX5_setSupply_2 : decode cX5_setSupply 2 = .ok (.invokestatic 89, 3) := by decide +kernel
theorem dX5_setSupply_5 : decode cX5_setSupply 5 = .ok (.ifCond .eq 14, 3) := by decide +kernel
theorem dX5_setSupply_8 : decode cX5_setSupply 8 = .ok (.iload_n 3, 1) := by decide +kernel
theorem dX5_setSupply_9 : decode cX5_setSupply 9 = .ok (.iconst 0, 1) := by decide +kernel
theorem dX5_setSupply_10 : decode cX5_setSupply 10 = .ok (.sipush 200, 3) := by decide +kernel
theorem dX5_setSupply_13 : decode cX5_setSupply 13 = .ok (.invokestatic 73, 3) := by decide +kernel
theorem dX5_setSupply_16 : decode cX5_setSupply 16 = .ok (.ifCond .ne 6, 3) := by decide +kernel
theorem dX5_setSupply_19 : decode cX5_setSupply 19 = .ok (.bipush (-102), 2) := by decide +kernel
theorem dX5_setSupply_21 : decode cX5_setSupply 21 = .ok (.ireturn, 1) := by decide +kernel
theorem dX5_setSupply_22 : decode cX5_setSupply 22 = .ok (.aload_n 0, 1) := by decide +kernel
theorem dX5_setSupply_23 : decode cX5_setSupply 23 = .ok (.getfield 10, 3) := by decide +kernel
theorem dX5_setSupply_26 : decode cX5_setSupply 26 = .ok (.getfield 125, 3) := by decide +kernel
theorem dX5_setSupply_29 : decode cX5_setSupply 29 = .ok (.iload_n 1, 1) := by decide +kernel
theorem dX5_setSupply_30 : decode cX5_setSupply 30 = .ok (.iaload, 1) := by decide +kernel
theorem dX5_setSupply_31 : decode cX5_setSupply 31 = .ok (.istore 4, 2) := by decide +kernel
theorem dX5_setSupply_33 : decode cX5_setSupply 33 = .ok (.aload_n 0, 1) := by decide +kernel
theorem dX5_setSupply_34 : decode cX5_setSupply 34 = .ok (.getfield 10, 3) := by decide +kernel
theorem dX5_setSupply_37 : decode cX5_setSupply 37 = .ok (.iload_n 1, 1) := by decide +kernel
theorem dX5_setSupply_38 : decode cX5_setSupply 38 = .ok (.iload_n 2, 1) := by decide +kernel
theorem dX5_setSupply_39 : decode cX5_setSupply 39 = .ok (.iload_n 3, 1) := by decide +kernel
theorem dX5_setSupply_40 : decode cX5_setSupply 40 = .ok (.invokevirtual 129, 3) := by decide +kernel
theorem dX5_setSupply_43 : decode cX5_setSupply 43 = .ok (.iload 4, 2) := by decide +kernel
theorem dX5_setSupply_45 : decode cX5_setSupply 45 = .ok (.ireturn, 1) := by decide +kernel
set_option maxRecDepth 20000 in
theorem ggX5_setRule_X5_isWithin : GoodIn wsX5_setRule wsX5_isWithin := goodIn_r _ [6] (by decide +kernel) (by decide +kernel)
set_option maxRecDepth 20000 in
theorem gX5_setRule_X5_isWithin : GoodIn wsX5_setRule (va_wsS RX5 73 yX5_isWithin wsX5_isWithin) := goodIn_app (goodIn_of _ (by decide +kernel)) ggX5_setRule_X5_isWithin
theorem dX5_setRule_0 : decode cX5_setRule 0 = .ok (.iload_n 1, 1) := by decide +kernel
theorem dX5_setRule_1 : decode cX5_setRule 1 = .ok (.iconst 0, 1) := by decide +kernel
theorem dX5_setRule_2 : decode cX5_setRule 2 = .ok (.iconst 2, 1) := by decide +kernel
theorem dX5_setRule_3 : decode cX5_setRule 3 = .ok (.invokestatic 73, 3) := by decide +kernel
theorem dX5_setRule_6 : decode cX5_setRule 6 = .ok (.ifCond .ne 6, 3) := by decide +kernel
theorem dX5_setRule_9 : decode cX5_setRule 9 = .ok (.bipush (-102), 2) := by decide +kernel
theorem dX5_setRule_11 : decode cX5_setRule 11 = .ok (.ireturn, 1) := by decide +kernel
theorem dX5_setRule_12 : decode cX5_setRule 12 = .ok (.aload_n 0, 1) := by decide +kernel
theorem dX5_setRule_13 : decode cX5_setRule 13 = .ok (.getfield 10, 3) := by decide +kernel
theorem dX5_setRule_16 : decode cX5_setRule 16 = .ok (.getfield 132, 3) := by decide +kernel
theorem dX5_setRule_19 : decode cX5_setRule 19 = .ok (.istore_n 2, 1) := by decide +kernel
theorem dX5_setRule_20 : decode cX5_setRule 20 = .ok (.aload_n 0, 1) := by decide +kernel
theorem dX5_setRule_21 : decode cX5_setRule 21 = .ok (.getfield 10, 3) := by decide +kernel
theorem dX5_setRule_24 : decode cX5_setRule 24 = .ok (.iload_n 1, 1) := by decide +kernel
theorem dX5_setRule_25 : decode cX5_setRule 25 = .ok (.putfield 132, 3) := by decide +kernel
theorem dX5_setRule_28 : decode cX5_setRule 28 = .ok (.iload_n 2, 1) := by decide +kernel
theorem dX5_setRule_29 : decode cX5_setRule 29 = .ok (.ireturn, 1) := by decide +kernel
set_option maxRecDepth 20000 in
theorem ggX5_setFutile_X5_isWithin : GoodIn wsX5_setFutile wsX5_isWithin := goodIn_r _ [6] (by decide +kernel) (by decide +kernel)
set_option maxRecDepth 20000 in
theorem gX5_setFutile_X5_isWithin : GoodIn wsX5_setFutile (va_wsS RX5 73 yX5_isWithin wsX5_isWithin) := goodIn_app (goodIn_of _ (by decide +kernel)) ggX5_setFutile_X5_isWithin
theorem dX5_setFutile_0 : decode cX5_setFutile 0 = .ok (.iload_n 1, 1) := by decide +kernel
theorem dX5_setFutile_1 : decode cX5_setFutile 1 = .ok (.iconst 0, 1) := by decide +kernel
theorem dX5_setFutile_2 : decode cX5_setFutile 2 = .ok (.bipush 100, 2) := by decide +kernel
theorem dX5_setFutile_4 : decode cX5_setFutile 4 = .ok (.invokestatic 73, 3) := by decide +kernel
theorem dX5_setFutile_7 : decode cX5_setFutile 7 = .ok (.ifCond .ne 6, 3) := by decide +kernel
theorem dX5_setFutile_10 : decode cX5_setFutile 10 = .ok (.bipush (-102), 2) := by decide +kernel
theorem dX5_setFutile_12 : decode cX5_setFutile 12 = .ok (.ireturn, 1) := by decide +kernel
theorem dX5_setFutile_13 : decode cX5_setFutile 13 = .ok (.aload_n 0, 1) := by decide +kernel
theorem dX5_setFutile_14 : decode cX5_setFutile 14 = .ok (.getfield 10, 3) := by decide +kernel
theorem dX5_setFutile_17 : decode cX5_setFutile 17 = .ok (.getfield 135, 3) := by decide +kernel
theorem dX5_setFutile_20 : decode cX5_setFutile 20 = .ok (.istore_n 2, 1) := by decide +kernel
theorem dX5_setFutile_21 : decode cX5_setFutile 21 = .ok (.aload_n 0, 1) := by decide +kernel
theorem dX5_setFutile_22 : decode cX5_setFutile 22 = .ok (.getfield 10, 3) := by decide +kernel
theorem dX5_setFutile_25 : decode cX5_setFutile 25 = .ok (.iload_n 1, 1) := by decide +kernel
theorem dX5_setFutile_26 : decode cX5_setFutile 26 = .ok (.putfield 135, 3) := by decide +kernel
theorem dX5_setFutile_29 : decode cX5_setFutile 29 = .ok (.iload_n 2, 1) := by decide +kernel
theorem dX5_setFutile_30 : decode cX5_setFutile 30 = .ok (.ireturn, 1) := by decide +kernel
theorem dX5_ditches_0 : decode cX5_ditches 0 = .ok (.aload_n 0, 1) := by decide +kernel
theorem dX5_ditches_1 : decode cX5_ditches 1 = .ok (.getfield 10, 3) := by decide +kernel
theorem dX5_ditches_4 : decode cX5_ditches 4 = .ok (.getfield 57, 3) := by decide +kernel
theorem dX5_ditches_7 : decode cX5_ditches 7 = .ok (.ireturn, 1) := by decide +kernel
theorem dX5_users_0 : decode cX5_users 0 = .ok (.aload_n 0, 1) := by decide +kernel
theorem dX5_users_1 : decode cX5_users 1 = .ok (.getfield 10, 3) := by decide +kernel
theorem dX5_users_4 : decode cX5_users 4 = .ok (.getfield 83, 3) := by decide +kernel
theorem dX5_users_7 : decode cX5_users 7 = .ok (.ireturn, 1) := by decide +kernel
set_option maxRecDepth 20000 in
theorem ggX5_userByAge_X2_hasUser : GoodIn wsX5_userByAge wsX2_hasUser := goodIn_r _ [7, 8, 15, 16, 17, 18, 19, 20, 21, 22, 23, 24] (by decide +kernel) (by decide +kernel)
set_option maxRecDepth 20000 in
theorem gX5_userByAge_X2_hasUser : GoodIn wsX5_userByAge (wsV RX5 86 RX2 yX2_hasUser wsX2_hasUser) := goodIn_app (goodIn_of _ (by decide +kernel)) ggX5_userByAge_X2_hasUser
theorem dX5_userByAge_0 : decode cX5_userByAge 0 = .ok (.aload_n 0, 1) := by decide +kernel
theorem dX5_userByAge_1 : decode cX5_userByAge 1 = .ok (.getfield 10, 3) := by decide +kernel
theorem dX5_userByAge_4 : decode cX5_userByAge 4 = .ok (.iload_n 1, 1) := by decide +kernel
theorem dX5_userByAge_5 : decode cX5_userByAge 5 = .ok (.invokevirtual 86, 3) := by decide +kernel
theorem dX5_userByAge_8 : decode cX5_userByAge 8 = .ok (.ifCond .eq 15, 3) := by decide +kernel
theorem dX5_userByAge_11 : decode cX5_userByAge 11 = .ok (.aload_n 0, 1) := by decide +kernel
theorem dX5_userByAge_12 : decode cX5_userByAge 12 = .ok (.getfield 10, 3) := by decide +kernel
theorem dX5_userByAge_15 : decode cX5_userByAge 15 = .ok (.getfield 138, 3) := by decide +kernel
theorem dX5_userByAge_18 : decode cX5_userByAge 18 = .ok (.iload_n 1, 1) := by decide +kernel
theorem dX5_userByAge_19 : decode cX5_userByAge 19 = .ok (.iaload, 1) := by decide +kernel
theorem dX5_userByAge_20 : decode cX5_userByAge 20 = .ok (.goto 5, 3) := by decide +kernel
theorem dX5_userByAge_23 : decode cX5_userByAge 23 = .ok (.bipush (-101), 2) := by decide +kernel
theorem dX5_userByAge_25 : decode cX5_userByAge 25 = .ok (.ireturn, 1) := by decide +kernel
theorem dX5_time_0 : decode cX5_time 0 = .ok (.aload_n 0, 1) := by decide +kernel
theorem dX5_time_1 : decode cX5_time 1 = .ok (.getfield 10, 3) := by decide +kernel
theorem dX5_time_4 : decode cX5_time 4 = .ok (.getfield 141, 3) := by decide +kernel
theorem dX5_time_7 : decode cX5_time 7 = .ok (.ireturn, 1) := by decide +kernel
set_option maxRecDepth 20000 in
theorem ggX5_asks_X2_hasUser : GoodIn wsX5_asks wsX2_hasUser := goodIn_r _ [6, 7, 54, 55, 56, 57, 58, 59, 60, 61, 62, 63] (by decide +kernel) (by decide +kernel)
set_option maxRecDepth 20000 in
theorem gX5_asks_X2_hasUser : GoodIn wsX5_asks (wsV RX5 86 RX2 yX2_hasUser wsX2_hasUser) := goodIn_app (goodIn_of _ (by decide +kernel)) ggX5_asks_X2_hasUser
set_option maxRecDepth 20000 in
theorem ggX5_asks_X2_userInTurn : GoodIn wsX5_asks wsX2_userInTurn := goodIn_r _ [11, 7, 12, 13, 14, 15, 16, 17, 18, 19, 54, 55, 56, 57, 58, 59, 60, 61, 62, 63, 64, 65, 66, 67, 68, 69, 70, 71, 72, 73, 74, 75] (by decide +kernel) (by decide +kernel)
set_option maxRecDepth 20000 in
theorem gX5_asks_X2_userInTurn : GoodIn wsX5_asks (wsV RX5 144 RX2 yX2_userInTurn wsX2_userInTurn) := goodIn_app (goodIn_of _ (by decide +kernel)) ggX5_asks_X2_userInTurn
set_option maxRecDepth 20000 in
theorem ggX5_asks_X2_unitsAsked : GoodIn wsX5_asks wsX2_unitsAsked := goodIn_r _ [23, 12, 24, 25, 26, 27, 28, 29, 30, 31, 32, 5, 33, 15, 16, 17, 18, 19, 34, 35, 36, 37, 38, 39, 40, 41, 42, 43, 44, 45, 46, 47, 54, 55, 56, 57, 58, 59, 60, 61, 62, 63, 64, 65, 66, 67, 68, 69, 70, 71, 72, 73, 74, 75] (by decide +kernel) (by decide +kernel)
set_option maxRecDepth 20000 in
theorem gX5_asks_X2_unitsAsked : GoodIn wsX5_asks (wsV RX5 148 RX2 yX2_unitsAsked wsX2_unitsAsked) := goodIn_app (goodIn_of _ (by decide +kernel)) ggX5_asks_X2_unitsAsked
theorem dX5_asks_0 : decode cX5_asks 0 = .ok (.aload_n 0, 1) := by decide +kernel
theorem dX5_asks_1 : decode cX5_asks 1 = .ok (.getfield 10, 3) := by decide +kernel
theorem dX5_asks_4 : decode cX5_asks 4 = .ok (.iload_n 1, 1) := by decide +kernel
theorem dX5_asks_5 : decode cX5_asks 5 = .ok (.invokevirtual 86, 3) := by decide +kernel
theorem dX5_asks_8 : decode cX5_asks 8 = .ok (.ifCond .ne 6, 3) := by decide +kernel
theorem dX5_asks_11 : decode cX5_asks 11 = .ok (.bipush (-101), 2) := by decide +kernel
theorem dX5_asks_13 : decode cX5_asks 13 = .ok (.ireturn, 1) := by decide +kernel
theorem dX5_asks_14 : decode cX5_asks 14 = .ok (.aload_n 0, 1) := by decide +kernel
theorem dX5_asks_15 : decode cX5_asks 15 = .ok (.getfield 10, 3) := by decide +kernel
theorem dX5_asks_18 : decode cX5_asks 18 = .ok (.iload_n 1, 1) := by decide +kernel
theorem dX5_asks_19 : decode cX5_asks 19 = .ok (.aload_n 0, 1) := by decide +kernel
theorem dX5_asks_20 : decode cX5_asks 20 = .ok (.getfield 10, 3) := by decide +kernel
theorem dX5_asks_23 : decode cX5_asks 23 = .ok (.invokevirtual 144, 3) := by decide +kernel
theorem dX5_asks_26 : decode cX5_asks 26 = .ok (.invokevirtual 148, 3) := by decide +kernel
theorem dX5_asks_29 : decode cX5_asks 29 = .ok (.ireturn, 1) := by decide +kernel
set_option maxRecDepth 20000 in
theorem ggX5_gets_X2_hasUser : GoodIn wsX5_gets wsX2_hasUser := goodIn_r _ [8, 9, 123, 124, 125, 126, 127, 128, 129, 130, 131, 132] (by decide +kernel) (by decide +kernel)
set_option maxRecDepth 20000 in
theorem gX5_gets_X2_hasUser : GoodIn wsX5_gets (wsV RX5 86 RX2 yX2_hasUser wsX2_hasUser) := goodIn_app (goodIn_of _ (by decide +kernel)) ggX5_gets_X2_hasUser
set_option maxRecDepth 20000 in
theorem ggX5_gets_X1_distribute : GoodIn wsX5_gets wsX1_distribute := goodIn_r _ [14, 15, 16, 17, 18, 19, 20, 21, 22, 23, 7, 24, 25, 26, 27, 28, 29, 30, 31, 32, 33, 34, 35, 36, 37, 38, 9, 39, 40, 41, 42, 43, 44, 45, 46, 47, 48, 49, 50, 51, 52, 53, 54, 55, 56, 57, 58, 59, 60, 61, 62, 63, 64, 65, 66, 67, 68, 13, 69, 70, 71, 72, 73, 74, 75, 76, 77, 78, 79, 80, 81, 82, 83, 84, 85, 86, 87, 88, 89, 90, 91, 92, 93, 94, 95, 96, 5, 6, 8, 97, 98, 99, 100, 101, 102, 103, 104, 105, 106, 107, 108, 109, 110, 117, 118, 119, 120, 121, 122, 123, 124, 125, 126, 127, 128, 129, 130, 131, 132, 133, 134, 135, 136, 137, 138, 139, 140, 141, 142, 143, 144, 145, 146, 147] (by decide +kernel) (by decide +kernel)
set_option maxRecDepth 20000 in
theorem gX5_gets_X1_distribute : GoodIn wsX5_gets (wsV RX5 151 RX1 yX1_distribute wsX1_distribute) := goodIn_app (goodIn_of _ (by decide +kernel)) ggX5_gets_X1_distribute
theorem dX5_gets_0 : decode cX5_gets 0 = .ok (.aload_n 0, 1) := by decide +kernel
theorem dX5_gets_1 : decode cX5_gets 1 = .ok (.getfield 10, 3) := by decide +kernel
theorem dX5_gets_4 : decode cX5_gets 4 = .ok (.iload_n 1, 1) := by decide +kernel
theorem dX5_gets_5 : decode cX5_gets 5 = .ok (.invokevirtual 86, 3) := by decide +kernel
theorem dX5_gets_8 : decode cX5_gets 8 = .ok (.ifCond .ne 6, 3) := by decide +kernel
theorem dX5_gets_11 : decode cX5_gets 11 = .ok (.bipush (-101), 2) := by decide +kernel
theorem dX5_gets_13 : decode cX5_gets 13 = .ok (.ireturn, 1) := by decide +kernel
theorem dX5_gets_14 : decode cX5_gets 14 = .ok (.aload_n 0, 1) := by decide +kernel
theorem dX5_gets_15 : decode cX5_gets 15 = .ok (.getfield 30, 3) := by decide +kernel
theorem dX5_gets_18 : decode cX5_gets 18 = .ok (.aload_n 0, 1) := by decide +kernel
theorem dX5_gets_19 : decode cX5_gets 19 = .ok (.getfield 10, 3) := by decide +kernel
theorem dX5_gets_22 : decode cX5_gets 22 = .ok (.invokevirtual 151, 3) := by decide +kernel
theorem dX5_gets_25 : decode cX5_gets 25 = .ok (.aload_n 0, 1) := by decide +kernel
theorem dX5_gets_26 : decode cX5_gets 26 = .ok (.getfield 30, 3) := by decide +kernel
theorem dX5_gets_29 : decode cX5_gets 29 = .ok (.getfield 155, 3) := by decide +kernel
theorem dX5_gets_32 : decode cX5_gets 32 = .ok (.iload_n 1, 1) := by decide +kernel
theorem dX5_gets_33 : decode cX5_gets 33 = .ok (.iaload, 1) := by decide +kernel
theorem dX5_gets_34 : decode cX5_gets 34 = .ok (.ireturn, 1) := by decide +kernel
set_option maxRecDepth 20000 in
theorem ggX5_inflow_X2_hasDitch : GoodIn wsX5_inflow wsX2_hasDitch := goodIn_r _ [8, 9, 127, 128, 129, 130, 131, 132, 133, 134, 135, 136] (by decide +kernel) (by decide +kernel)
set_option maxRecDepth 20000 in
theorem gX5_inflow_X2_hasDitch : GoodIn wsX5_inflow (wsV RX5 41 RX2 yX2_hasDitch wsX2_hasDitch) := goodIn_app (goodIn_of _ (by decide +kernel)) ggX5_inflow_X2_hasDitch
set_option maxRecDepth 20000 in
theorem ggX5_inflow_X1_distribute : GoodIn wsX5_inflow wsX1_distribute := goodIn_r _ [14, 15, 16, 17, 18, 19, 20, 21, 22, 23, 7, 24, 25, 26, 27, 28, 29, 30, 31, 32, 33, 34, 35, 36, 37, 38, 39, 40, 41, 42, 43, 44, 45, 46, 47, 48, 49, 50, 51, 52, 53, 54, 55, 56, 57, 58, 59, 60, 61, 62, 63, 64, 65, 66, 67, 68, 69, 13, 70, 71, 72, 73, 74, 75, 76, 77, 78, 79, 80, 81, 82, 83, 84, 85, 86, 87, 88, 89, 90, 91, 92, 93, 94, 95, 96, 97, 98, 99, 100, 101, 102, 103, 104, 105, 106, 107, 108, 109, 110, 111, 112, 113, 114, 121, 122, 123, 124, 125, 126, 127, 128, 129, 130, 131, 132, 133, 134, 135, 136, 137, 138, 139, 140, 141, 142, 143, 144, 145, 146, 147, 148, 149, 150, 151] (by decide +kernel) (by decide +kernel)
set_option maxRecDepth 20000 in
theorem gX5_inflow_X1_distribute : GoodIn wsX5_inflow (wsV RX5 151 RX1 yX1_distribute wsX1_distribute) := goodIn_app (goodIn_of _ (by decide +kernel)) ggX5_inflow_X1_distribute
theorem dX5_inflow_0 : decode cX5_inflow 0 = .ok (.aload_n 0, 1) := by decide +kernel
theorem dX5_inflow_1 : decode cX5_inflow 1 = .ok (.getfield 10, 3) := by decide +kernel
theorem dX5_inflow_4 : decode cX5_inflow 4 = .ok (.iload_n 1, 1) := by decide +kernel
theorem dX5_inflow_5 : decode cX5_inflow 5 = .ok (.invokevirtual 41, 3) := by decide +kernel
theorem dX5_inflow_8 : decode cX5_inflow 8 = .ok (.ifCond .ne 6, 3) := by decide +kernel
theorem dX5_inflow_11 : decode cX5_inflow 11 = .ok (.bipush (-101), 2) := by decide +kernel
theorem dX5_inflow_13 : decode cX5_inflow 13 = .ok (.ireturn, 1) := by decide +kernel
theorem dX5_inflow_14 : decode cX5_inflow 14 = .ok (.aload_n 0, 1) := by decide +kernel
theorem dX5_inflow_15 : decode cX5_inflow 15 = .ok (.getfield 30, 3) := by decide +kernel
theorem dX5_inflow_18 : decode cX5_inflow 18 = .ok (.aload_n 0, 1) := by decide +kernel
theorem dX5_inflow_19 : decode cX5_inflow 19 = .ok (.getfield 10, 3) := by decide +kernel
theorem dX5_inflow_22 : decode cX5_inflow 22 = .ok (.invokevirtual 151, 3) := by decide +kernel
theorem dX5_inflow_25 : decode cX5_inflow 25 = .ok (.aload_n 0, 1) := by decide +kernel
theorem dX5_inflow_26 : decode cX5_inflow 26 = .ok (.getfield 30, 3) := by decide +kernel
theorem dX5_inflow_29 : decode cX5_inflow 29 = .ok (.getfield 158, 3) := by decide +kernel
theorem dX5_inflow_32 : decode cX5_inflow 32 = .ok (.iload_n 1, 1) := by decide +kernel
theorem dX5_inflow_33 : decode cX5_inflow 33 = .ok (.iaload, 1) := by decide +kernel
theorem dX5_inflow_34 : decode cX5_inflow 34 = .ok (.ireturn, 1) := by decide +kernel
set_option maxRecDepth 20000 in
theorem ggX5_loses_X2_hasDitch : GoodIn wsX5_loses wsX2_hasDitch := goodIn_r _ [7, 8, 124, 125, 126, 127, 128, 129, 130, 131, 132, 133] (by decide +kernel) (by decide +kernel)
set_option maxRecDepth 20000 in
theorem gX5_loses_X2_hasDitch : GoodIn wsX5_loses (wsV RX5 41 RX2 yX2_hasDitch wsX2_hasDitch) := goodIn_app (goodIn_of _ (by decide +kernel)) ggX5_loses_X2_hasDitch
set_option maxRecDepth 20000 in
theorem ggX5_loses_X1_distribute : GoodIn wsX5_loses wsX1_distribute := goodIn_r _ [13, 14, 15, 16, 17, 18, 19, 20, 21, 22, 6, 23, 24, 25, 26, 27, 28, 29, 30, 31, 32, 33, 34, 35, 36, 37, 38, 39, 40, 41, 42, 43, 44, 45, 46, 47, 48, 49, 50, 51, 52, 53, 54, 55, 56, 57, 58, 59, 60, 61, 62, 63, 64, 65, 66, 67, 68, 12, 69, 70, 71, 72, 73, 74, 75, 76, 77, 78, 79, 80, 81, 82, 83, 84, 85, 86, 87, 88, 89, 90, 91, 92, 93, 94, 95, 96, 97, 98, 99, 100, 101, 102, 103, 104, 105, 106, 107, 108, 109, 110, 111, 112, 113, 134, 135, 136, 137, 138, 139, 124, 125, 126, 127, 128, 129, 130, 131, 132, 133, 140, 141, 142, 143, 144, 145, 146, 147, 148, 149, 150, 151, 152, 153, 154] (by decide +kernel) (by decide +kernel)
set_option maxRecDepth 20000 in
theorem gX5_loses_X1_distribute : GoodIn wsX5_loses (wsV RX5 151 RX1 yX1_distribute wsX1_distribute) := goodIn_app (goodIn_of _ (by decide +kernel)) ggX5_loses_X1_distribute
set_option maxRecDepth 20000 in
theorem ggX5_loses_X1_lostIn : GoodIn wsX5_loses wsX1_lostIn := goodIn_r _ [117, 82, 79, 134, 135, 136, 137, 138, 139] (by decide +kernel) (by decide +kernel)
set_option maxRecDepth 20000 in
theorem gX5_loses_X1_lostIn : GoodIn wsX5_loses (wsV RX5 161 RX1 yX1_lostIn wsX1_lostIn) := goodIn_app (goodIn_of _ (by decide +kernel)) ggX5_loses_X1_lostIn
theorem dX5_loses_0 : decode cX5_loses 0 = .ok (.aload_n 0, 1) := by decide +kernel
theorem dX5_loses_1 : decode cX5_loses 1 = .ok (.getfield 10, 3) := by decide +kernel
theorem dX5_loses_4 : decode cX5_loses 4 = .ok (.iload_n 1, 1) := by decide +kernel
theorem dX5_loses_5 : decode cX5_loses 5 = .ok (.invokevirtual 41, 3) := by decide +kernel
theorem dX5_loses_8 : decode cX5_loses 8 = .ok (.ifCond .ne 6, 3) := by decide +kernel
theorem dX5_loses_11 : decode cX5_loses 11 = .ok (.bipush (-101), 2) := by decide +kernel
theorem dX5_loses_13 : decode cX5_loses 13 = .ok (.ireturn, 1) := by decide +kernel
theorem dX5_loses_14 : decode cX5_loses 14 = .ok (.aload_n 0, 1) := by decide +kernel
theorem dX5_loses_15 : decode cX5_loses 15 = .ok (.getfield 30, 3) := by decide +kernel
theorem dX5_loses_18 : decode cX5_loses 18 = .ok (.aload_n 0, 1) := by decide +kernel
theorem dX5_loses_19 : decode cX5_loses 19 = .ok (.getfield 10, 3) := by decide +kernel
theorem dX5_loses_22 : decode cX5_loses 22 = .ok (.invokevirtual 151, 3) := by decide +kernel
theorem dX5_loses_25 : decode cX5_loses 25 = .ok (.aload_n 0, 1) := by decide +kernel
theorem dX5_loses_26 : decode cX5_loses 26 = .ok (.getfield 30, 3) := by decide +kernel
theorem dX5_loses_29 : decode cX5_loses 29 = .ok (.iload_n 1, 1) := by decide +kernel
theorem dX5_loses_30 : decode cX5_loses 30 = .ok (.invokevirtual 161, 3) := by decide +kernel
theorem dX5_loses_33 : decode cX5_loses 33 = .ok (.ireturn, 1) := by decide +kernel
set_option maxRecDepth 20000 in
theorem ggX5_turn_X2_userInTurn : GoodIn wsX5_turn wsX2_userInTurn := goodIn_r _ [6, 7, 8, 9, 10, 11, 12, 13, 14, 15, 22, 23, 24, 25, 26, 27, 28, 29, 30, 31, 32, 33, 34, 35, 36, 37, 38, 39, 40, 41, 42, 43] (by decide +kernel) (by decide +kernel)
set_option maxRecDepth 20000 in
theorem gX5_turn_X2_userInTurn : GoodIn wsX5_turn (wsV RX5 144 RX2 yX2_userInTurn wsX2_userInTurn) := goodIn_app (goodIn_of _ (by decide +kernel)) ggX5_turn_X2_userInTurn
theorem dX5_turn_0 : decode cX5_turn 0 = .ok (.aload_n 0, 1) := by decide +kernel
theorem dX5_turn_1 : decode cX5_turn 1 = .ok (.getfield 10, 3) := by decide +kernel
theorem dX5_turn_4 : decode cX5_turn 4 = .ok (.invokevirtual 144, 3) := by decide +kernel
theorem dX5_turn_7 : decode cX5_turn 7 = .ok (.ireturn, 1) := by decide +kernel
set_option maxRecDepth 20000 in
theorem ggX5_limit_X2_hasUser : GoodIn wsX5_limit wsX2_hasUser := goodIn_r _ [7, 8, 124, 125, 126, 127, 128, 129, 130, 131, 132, 133] (by decide +kernel) (by decide +kernel)
set_option maxRecDepth 20000 in
theorem gX5_limit_X2_hasUser : GoodIn wsX5_limit (wsV RX5 86 RX2 yX2_hasUser wsX2_hasUser) := goodIn_app (goodIn_of _ (by decide +kernel)) ggX5_limit_X2_hasUser
set_option maxRecDepth 20000 in
theorem ggX5_limit_X1_distribute : GoodIn wsX5_limit wsX1_distribute := goodIn_r _ [13, 14, 15, 16, 17, 18, 19, 20, 21, 22, 6, 23, 24, 25, 26, 27, 28, 29, 30, 31, 32, 33, 34, 35, 36, 37, 8, 38, 39, 40, 41, 42, 43, 44, 45, 46, 47, 48, 49, 50, 51, 52, 53, 54, 55, 56, 57, 58, 59, 60, 61, 62, 63, 64, 65, 66, 67, 12, 68, 69, 70, 71, 72, 73, 74, 75, 76, 77, 78, 79, 80, 81, 82, 83, 84, 85, 86, 87, 88, 89, 90, 91, 92, 93, 94, 95, 4, 5, 7, 96, 97, 98, 99, 100, 101, 102, 103, 104, 105, 106, 107, 108, 109, 134, 135, 136, 137, 138, 139, 124, 125, 126, 127, 128, 129, 130, 131, 132, 133, 140, 141, 142, 143, 144, 145, 146, 147, 148, 149, 150, 151, 152, 153, 154] (by decide +kernel) (by decide +kernel)
set_option maxRecDepth 20000 in
theorem gX5_limit_X1_distribute : GoodIn wsX5_limit (wsV RX5 151 RX1 yX1_distribute wsX1_distribute) := goodIn_app (goodIn_of _ (by decide +kernel)) ggX5_limit_X1_distribute
set_option maxRecDepth 20000 in
theorem ggX5_limit_X1_isContent : GoodIn wsX5_limit wsX1_isContent := goodIn_r _ [113, 17, 16, 134, 135, 136, 137, 138, 139] (by decide +kernel) (by decide +kernel)
set_option maxRecDepth 20000 in
theorem gX5_limit_X1_isContent : GoodIn wsX5_limit (wsV RX5 165 RX1 yX1_isContent wsX1_isContent) := goodIn_app (goodIn_of _ (by decide +kernel)) ggX5_limit_X1_isContent
set_option maxRecDepth 20000 in
theorem ggX5_limit_X1_ditchAgainstOneMore : GoodIn wsX5_limit wsX1_ditchAgainstOneMore := goodIn_r _ [117, 17, 79, 80, 77, 81, 82, 94, 83, 73, 74, 75, 12, 76, 78, 15, 84, 85, 86, 87, 88, 89, 134, 135, 136, 137, 138, 139, 124, 125, 126, 127, 128, 129, 130, 131, 132, 133, 140, 141, 142, 143, 144, 145, 146, 147, 148, 149, 150, 151, 152, 153, 154] (by decide +kernel) (by decide +kernel)
set_option maxRecDepth 20000 in
theorem gX5_limit_X1_ditchAgainstOneMore : GoodIn wsX5_limit (wsV RX5 168 RX1 yX1_ditchAgainstOneMore wsX1_ditchAgainstOneMore) := goodIn_app (goodIn_of _ (by decide +kernel)) ggX5_limit_X1_ditchAgainstOneMore
theorem dX5_limit_0 : decode cX5_limit 0 = .ok (.aload_n 0, 1) := by decide +kernel
theorem dX5_limit_1 : decode cX5_limit 1 = .ok (.getfield 10, 3) := by decide +kernel
theorem dX5_limit_4 : decode cX5_limit 4 = .ok (.iload_n 1, 1) := by decide +kernel
theorem dX5_limit_5 : decode cX5_limit 5 = .ok (.invokevirtual 86, 3) := by decide +kernel
theorem dX5_limit_8 : decode cX5_limit 8 = .ok (.ifCond .ne 6, 3) := by decide +kernel
theorem dX5_limit_11 : decode cX5_limit 11 = .ok (.bipush (-101), 2) := by decide +kernel
theorem dX5_limit_13 : decode cX5_limit 13 = .ok (.ireturn, 1) := by decide +kernel
theorem dX5_limit_14 : decode cX5_limit 14 = .ok (.aload_n 0, 1) := by decide +kernel
theorem dX5_limit_15 : decode cX5_limit 15 = .ok (.getfield 30, 3) := by decide +kernel
theorem dX5_limit_18 : decode cX5_limit 18 = .ok (.aload_n 0, 1) := by decide +kernel
theorem dX5_limit_19 : decode cX5_limit 19 = .ok (.getfield 10, 3) := by decide +kernel
theorem dX5_limit_22 : decode cX5_limit 22 = .ok (.invokevirtual 151, 3) := by decide +kernel
theorem dX5_limit_25 : decode cX5_limit 25 = .ok (.aload_n 0, 1) := by decide +kernel
theorem dX5_limit_26 : decode cX5_limit 26 = .ok (.getfield 30, 3) := by decide +kernel
theorem dX5_limit_29 : decode cX5_limit 29 = .ok (.iload_n 1, 1) := by decide +kernel
theorem dX5_limit_30 : decode cX5_limit 30 = .ok (.invokevirtual 165, 3) := by decide +kernel
theorem dX5_limit_33 : decode cX5_limit 33 = .ok (.ifCond .eq 6, 3) := by decide +kernel
theorem dX5_limit_36 : decode cX5_limit 36 = .ok (.bipush (-103), 2) := by decide +kernel
theorem dX5_limit_38 : decode cX5_limit 38 = .ok (.ireturn, 1) := by decide +kernel
theorem dX5_limit_39 : decode cX5_limit 39 = .ok (.aload_n 0, 1) := by decide +kernel
theorem dX5_limit_40 : decode cX5_limit 40 = .ok (.getfield 30, 3) := by decide +kernel
theorem dX5_limit_43 : decode cX5_limit 43 = .ok (.aload_n 0, 1) := by decide +kernel
theorem dX5_limit_44 : decode cX5_limit 44 = .ok (.getfield 10, 3) := by decide +kernel
theorem dX5_limit_47 : decode cX5_limit 47 = .ok (.iload_n 1, 1) := by decide +kernel
theorem dX5_limit_48 : decode cX5_limit 48 = .ok (.invokevirtual 168, 3) := by decide +kernel
theorem dX5_limit_51 : decode cX5_limit 51 = .ok (.ireturn, 1) := by decide +kernel
set_option maxRecDepth 20000 in
theorem ggX5_usefulGate_X2_hasDitch : GoodIn wsX5_usefulGate wsX2_hasDitch := goodIn_r _ [7, 8, 164, 165, 166, 167, 168, 169, 170, 171, 172, 173] (by decide +kernel) (by decide +kernel)
set_option maxRecDepth 20000 in
theorem gX5_usefulGate_X2_hasDitch : GoodIn wsX5_usefulGate (wsV RX5 41 RX2 yX2_hasDitch wsX2_hasDitch) := goodIn_app (goodIn_of _ (by decide +kernel)) ggX5_usefulGate_X2_hasDitch
set_option maxRecDepth 20000 in
theorem ggX5_usefulGate_X2_copyFrom : GoodIn wsX5_usefulGate wsX2_copyFrom := goodIn_r _ [12, 8, 13, 14, 15, 16, 17, 18, 19, 20, 21, 22, 23, 24, 25, 26, 27, 28, 29, 30, 31, 32, 33, 34, 35, 36, 37, 38, 39, 40, 41, 42, 43, 44, 45, 46, 47, 48, 49, 50, 51, 52, 53, 164, 165, 166, 167, 168, 169, 170, 171, 172, 173, 174, 175, 176, 177, 178, 179, 180, 181, 182, 183, 184, 185, 186, 187, 188] (by decide +kernel) (by decide +kernel)
set_option maxRecDepth 20000 in
theorem gX5_usefulGate_X2_copyFrom : GoodIn wsX5_usefulGate (wsV RX5 172 RX2 yX2_copyFrom wsX2_copyFrom) := goodIn_app (goodIn_of _ (by decide +kernel)) ggX5_usefulGate_X2_copyFrom
set_option maxRecDepth 20000 in
theorem ggX5_usefulGate_X5_unitsGotInTrial : GoodIn wsX5_usefulGate wsX5_unitsGotInTrial := goodIn_r _ [58, 2, 59, 60, 61, 62, 63, 64, 65, 66, 67, 68, 69, 70, 71, 72, 73, 74, 75, 6, 76, 20, 77, 78, 79, 80, 24, 81, 82, 83, 84, 85, 86, 87, 88, 17, 18, 89, 22, 90, 91, 92, 93, 94, 95, 96, 97, 98, 99, 100, 101, 102, 36, 103, 42, 43, 41, 104, 105, 106, 107, 44, 45, 108, 109, 110, 111, 112, 113, 114, 115, 116, 117, 118, 119, 120, 121, 122, 123, 124, 125, 126, 127, 128, 129, 28, 130, 32, 131, 132, 133, 134, 135, 136, 137, 138, 139, 140, 141, 142, 143, 144, 145, 146, 147, 148, 149, 150, 151, 152, 153, 154, 155, 156, 157, 158, 159, 160, 161, 162, 163, 164, 165, 166, 167, 168, 169, 170, 171, 172, 173, 174, 175, 176, 189, 190, 191, 192, 193, 194, 177, 178, 179, 180, 181, 182, 183, 184, 185, 186, 187, 188] (by decide +kernel) (by decide +kernel)
set_option maxRecDepth 20000 in
theorem gX5_usefulGate_X5_unitsGotInTrial : GoodIn wsX5_usefulGate (wsV RX5 178 RX5 yX5_unitsGotInTrial wsX5_unitsGotInTrial) := goodIn_app (goodIn_of _ (by decide +kernel)) ggX5_usefulGate_X5_unitsGotInTrial
theorem dX5_usefulGate_0 : decode cX5_usefulGate 0 = .ok (.aload_n 0, 1) := by decide +kernel
theorem dX5_usefulGate_1 : decode cX5_usefulGate 1 = .ok (.getfield 10, 3) := by decide +kernel
theorem dX5_usefulGate_4 : decode cX5_usefulGate 4 = .ok (.iload_n 1, 1) := by decide +kernel
theorem dX5_usefulGate_5 : decode cX5_usefulGate 5 = .ok (.invokevirtual 41, 3) := by decide +kernel
theorem dX5_usefulGate_8 : decode cX5_usefulGate 8 = .ok (.ifCond .ne 6, 3) := by decide +kernel
theorem dX5_usefulGate_11 : decode cX5_usefulGate 11 = .ok (.bipush (-101), 2) := by decide +kernel
theorem dX5_usefulGate_13 : decode cX5_usefulGate 13 = .ok (.ireturn, 1) := by decide +kernel
theorem dX5_usefulGate_14 : decode cX5_usefulGate 14 = .ok (.aload_n 0, 1) := by decide +kernel
theorem dX5_usefulGate_15 : decode cX5_usefulGate 15 = .ok (.getfield 16, 3) := by decide +kernel
theorem dX5_usefulGate_18 : decode cX5_usefulGate 18 = .ok (.aload_n 0, 1) := by decide +kernel
theorem dX5_usefulGate_19 : decode cX5_usefulGate 19 = .ok (.getfield 10, 3) := by decide +kernel
theorem dX5_usefulGate_22 : decode cX5_usefulGate 22 = .ok (.invokevirtual 172, 3) := by decide +kernel
theorem dX5_usefulGate_25 : decode cX5_usefulGate 25 = .ok (.aload_n 0, 1) := by decide +kernel
theorem dX5_usefulGate_26 : decode cX5_usefulGate 26 = .ok (.iload_n 1, 1) := by decide +kernel
theorem dX5_usefulGate_27 : decode cX5_usefulGate 27 = .ok (.sipush 200, 3) := by decide +kernel
theorem dX5_usefulGate_30 : decode cX5_usefulGate 30 = .ok (.invokevirtual 178, 3) := by decide +kernel
theorem dX5_usefulGate_33 : decode cX5_usefulGate 33 = .ok (.istore_n 2, 1) := by decide +kernel
theorem dX5_usefulGate_34 : decode cX5_usefulGate 34 = .ok (.iconst 1, 1) := by decide +kernel
theorem dX5_usefulGate_35 : decode cX5_usefulGate 35 = .ok (.istore_n 3, 1) := by decide +kernel
theorem dX5_usefulGate_36 : decode cX5_usefulGate 36 = .ok (.iload_n 3, 1) := by decide +kernel
theorem dX5_usefulGate_37 : decode cX5_usefulGate 37 = .ok (.sipush 200, 3) := by decide +kernel
theorem dX5_usefulGate_40 : decode cX5_usefulGate 40 = .ok (.if_icmp .ge 21, 3) := by decide +kernel
theorem dX5_usefulGate_43 : decode cX5_usefulGate 43 = .ok (.aload_n 0, 1) := by decide +kernel
theorem dX5_usefulGate_44 : decode cX5_usefulGate 44 = .ok (.iload_n 1, 1) := by decide +kernel
theorem dX5_usefulGate_45 : decode cX5_usefulGate 45 = .ok (.iload_n 3, 1) := by decide +kernel
theorem dX5_usefulGate_46 : decode cX5_usefulGate 46 = .ok (.invokevirtual 178, 3) := by decide +kernel
theorem dX5_usefulGate_49 : decode cX5_usefulGate 49 = .ok (.iload_n 2, 1) := by decide +kernel
theorem dX5_usefulGate_50 : decode cX5_usefulGate 50 = .ok (.if_icmp .ne 5, 3) := by decide +kernel
theorem dX5_usefulGate_53 : decode cX5_usefulGate 53 = .ok (.iload_n 3, 1) := by decide +kernel
theorem dX5_usefulGate_54 : decode cX5_usefulGate 54 = .ok (.ireturn, 1) := by decide +kernel
theorem dX5_usefulGate_55 : decode cX5_usefulGate 55 = .ok (.iinc 3 1, 3) := by decide +kernel
theorem dX5_usefulGate_58 : decode cX5_usefulGate 58 = .ok (.goto (-22), 3) := by decide +kernel
theorem dX5_usefulGate_61 : decode cX5_usefulGate 61 = .ok (.sipush 200, 3) := by decide +kernel
theorem dX5_usefulGate_64 : decode cX5_usefulGate 64 = .ok (.ireturn, 1) := by decide +kernel
set_option maxRecDepth 20000 in
theorem ggX5_advance_X5_isWithin : GoodIn wsX5_advance wsX5_isWithin := goodIn_r _ [6] (by decide +kernel) (by decide +kernel)
set_option maxRecDepth 20000 in
theorem gX5_advance_X5_isWithin : GoodIn wsX5_advance (va_wsS RX5 73 yX5_isWithin wsX5_isWithin) := goodIn_app (goodIn_of _ (by decide +kernel)) ggX5_advance_X5_isWithin
set_option maxRecDepth 20000 in
theorem ggX5_advance_X2_passHour : GoodIn wsX5_advance wsX2_passHour := goodIn_r _ [11, 12, 13, 14, 15, 16, 17, 18, 19, 20, 21, 22, 23, 24, 25, 26, 27, 28, 29, 30, 31, 32, 10, 33, 34, 35, 36, 37, 38, 39, 40, 41, 42, 43, 44, 45, 46, 47, 48, 49, 50, 51, 52, 53, 54, 55, 56, 57, 58, 59, 60, 61, 62, 63, 64, 65, 66, 67, 68, 69, 70, 71, 72, 73, 74, 75, 76, 77, 78, 79, 80, 81, 82, 83, 84, 85, 86, 87, 88, 89, 90, 91, 92, 93, 94, 95, 96, 97, 98, 99, 100, 101, 102, 103, 104, 105, 106, 107, 108, 109, 110, 111, 112, 113, 114, 115, 116, 117, 118, 119, 120, 121, 122, 123, 124, 125, 126, 127, 128, 129, 130, 131, 132, 139, 140, 141, 142, 143, 144, 145, 146, 147, 148, 149, 150, 151, 152, 153, 154, 155, 156, 157, 158, 159, 160, 161, 162, 163, 164, 165, 166, 167, 168, 169] (by decide +kernel) (by decide +kernel)
set_option maxRecDepth 20000 in
theorem gX5_advance_X2_passHour : GoodIn wsX5_advance (wsV RX5 181 RX2 yX2_passHour wsX2_passHour) := goodIn_app (goodIn_of _ (by decide +kernel)) ggX5_advance_X2_passHour
theorem dX5_advance_0 : decode cX5_advance 0 = .ok (.iload_n 1, 1) := by decide +kernel
theorem dX5_advance_1 : decode cX5_advance 1 = .ok (.iconst 1, 1) := by decide +kernel
theorem dX5_advance_2 : decode cX5_advance 2 = .ok (.bipush 48, 2) := by decide +kernel
theorem dX5_advance_4 : decode cX5_advance 4 = .ok (.invokestatic 73, 3) := by decide +kernel
theorem dX5_advance_7 : decode cX5_advance 7 = .ok (.ifCond .ne 6, 3) := by decide +kernel
theorem dX5_advance_10 : decode cX5_advance 10 = .ok (.bipush (-102), 2) := by decide +kernel
theorem dX5_advance_12 : decode cX5_advance 12 = .ok (.ireturn, 1) := by decide +kernel
theorem dX5_advance_13 : decode cX5_advance 13 = .ok (.iconst 0, 1) := by decide +kernel
theorem dX5_advance_14 : decode cX5_advance 14 = .ok (.istore_n 2, 1) := by decide +kernel
theorem dX5_advance_15 : decode cX5_advance 15 = .ok (.iconst 0, 1) := by decide +kernel
theorem dX5_advance_16 : decode cX5_advance 16 = .ok (.istore_n 3, 1) := by decide +kernel
theorem dX5_advance_17 : decode cX5_advance 17 = .ok (.iload_n 3, 1) := by decide +kernel
theorem dX5_advance_18 : decode cX5_advance 18 = .ok (.iload_n 1, 1) := by decide +kernel
theorem dX5_advance_19 : decode cX5_advance 19 = .ok (.if_icmp .ge 23, 3) := by decide +kernel
theorem dX5_advance_22 : decode cX5_advance 22 = .ok (.iload_n 2, 1) := by decide +kernel
theorem dX5_advance_23 : decode cX5_advance 23 = .ok (.aload_n 0, 1) := by decide +kernel
theorem dX5_advance_24 : decode cX5_advance 24 = .ok (.getfield 10, 3) := by decide +kernel
theorem dX5_advance_27 : decode cX5_advance 27 = .ok (.aload_n 0, 1) := by decide +kernel
theorem dX5_advance_28 : decode cX5_advance 28 = .ok (.getfield 30, 3) := by decide +kernel
theorem dX5_advance_31 : decode cX5_advance 31 = .ok (.invokevirtual 181, 3) := by decide +kernel
theorem dX5_advance_34 : decode cX5_advance 34 = .ok (.iadd, 1) := by decide +kernel
theorem dX5_advance_35 : decode cX5_advance 35 = .ok (.istore_n 2, 1) := by decide +kernel
theorem dX5_advance_36 : decode cX5_advance 36 = .ok (.iinc 3 1, 3) := by decide +kernel
theorem dX5_advance_39 : decode cX5_advance 39 = .ok (.goto (-22), 3) := by decide +kernel
theorem dX5_advance_42 : decode cX5_advance 42 = .ok (.iload_n 2, 1) := by decide +kernel
theorem dX5_advance_43 : decode cX5_advance 43 = .ok (.ireturn, 1) := by decide +kernel
set_option maxRecDepth 20000 in
theorem ggX5_account_X5_isWithin : GoodIn wsX5_account wsX5_isWithin := goodIn_r _ [6] (by decide +kernel) (by decide +kernel)
set_option maxRecDepth 20000 in
theorem gX5_account_X5_isWithin : GoodIn wsX5_account (va_wsS RX5 73 yX5_isWithin wsX5_isWithin) := goodIn_app (goodIn_of _ (by decide +kernel)) ggX5_account_X5_isWithin
theorem dX5_account_0 : decode cX5_account 0 = .ok (.iload_n 1, 1) := by decide +kernel
theorem dX5_account_1 : decode cX5_account 1 = .ok (.iconst 0, 1) := by decide +kernel
theorem dX5_account_2 : decode cX5_account 2 = .ok (.bipush 6, 2) := by decide +kernel
theorem dX5_account_4 : decode cX5_account 4 = .ok (.invokestatic 73, 3) := by decide +kernel
theorem dX5_account_7 : decode cX5_account 7 = .ok (.ifCond .eq 15, 3) := by decide +kernel
theorem dX5_account_10 : decode cX5_account 10 = .ok (.aload_n 0, 1) := by decide +kernel
theorem dX5_account_11 : decode cX5_account 11 = .ok (.getfield 10, 3) := by decide +kernel
theorem dX5_account_14 : decode cX5_account 14 = .ok (.getfield 185, 3) := by decide +kernel
theorem dX5_account_17 : decode cX5_account 17 = .ok (.iload_n 1, 1) := by decide +kernel
theorem dX5_account_18 : decode cX5_account 18 = .ok (.iaload, 1) := by decide +kernel
theorem dX5_account_19 : decode cX5_account 19 = .ok (.goto 5, 3) := by decide +kernel
theorem dX5_account_22 : decode cX5_account 22 = .ok (.bipush (-102), 2) := by decide +kernel
theorem dX5_account_24 : decode cX5_account 24 = .ok (.ireturn, 1) := by decide +kernel
set_option maxRecDepth 20000 in
theorem ggX5_willMiss_X2_hasUser : GoodIn wsX5_willMiss wsX2_hasUser := goodIn_r _ [10, 11, 174, 175, 176, 177, 178, 179, 180, 181, 182, 183] (by decide +kernel) (by decide +kernel)
set_option maxRecDepth 20000 in
theorem gX5_willMiss_X2_hasUser : GoodIn wsX5_willMiss (wsV RX5 86 RX2 yX2_hasUser wsX2_hasUser) := goodIn_app (goodIn_of _ (by decide +kernel)) ggX5_willMiss_X2_hasUser
set_option maxRecDepth 20000 in
theorem ggX5_willMiss_X5_isWithin : GoodIn wsX5_willMiss wsX5_isWithin := goodIn_r _ [15] (by decide +kernel) (by decide +kernel)
set_option maxRecDepth 20000 in
theorem gX5_willMiss_X5_isWithin : GoodIn wsX5_willMiss (va_wsS RX5 73 yX5_isWithin wsX5_isWithin) := goodIn_app (goodIn_of _ (by decide +kernel)) ggX5_willMiss_X5_isWithin
set_option maxRecDepth 20000 in
theorem ggX5_willMiss_X2_copyFrom : GoodIn wsX5_willMiss wsX2_copyFrom := goodIn_r _ [19, 20, 21, 22, 23, 24, 11, 25, 26, 27, 28, 29, 30, 31, 32, 33, 34, 35, 36, 37, 38, 39, 40, 41, 42, 43, 44, 45, 46, 47, 48, 49, 50, 51, 52, 53, 54, 55, 56, 57, 58, 59, 60, 174, 175, 176, 177, 178, 179, 180, 181, 182, 183, 196, 197, 198, 184, 185, 186, 187, 188, 189, 190, 191, 192, 193, 194, 195] (by decide +kernel) (by decide +kernel)
set_option maxRecDepth 20000 in
theorem gX5_willMiss_X2_copyFrom : GoodIn wsX5_willMiss (wsV RX5 172 RX2 yX2_copyFrom wsX2_copyFrom) := goodIn_app (goodIn_of _ (by decide +kernel)) ggX5_willMiss_X2_copyFrom
set_option maxRecDepth 20000 in
theorem ggX5_willMiss_X2_passHour : GoodIn wsX5_willMiss wsX2_passHour := goodIn_r _ [64, 28, 65, 20, 11, 25, 66, 31, 67, 68, 69, 70, 71, 72, 73, 74, 75, 76, 77, 78, 79, 80, 9, 81, 27, 82, 83, 84, 85, 86, 87, 88, 89, 90, 91, 92, 93, 94, 29, 95, 96, 97, 98, 99, 100, 101, 102, 103, 104, 105, 106, 107, 43, 108, 49, 50, 48, 109, 110, 111, 112, 51, 52, 113, 114, 115, 116, 117, 118, 119, 120, 121, 122, 123, 124, 125, 126, 127, 128, 129, 130, 131, 132, 133, 134, 35, 135, 39, 136, 137, 138, 139, 140, 141, 7, 8, 10, 142, 143, 144, 145, 146, 147, 148, 149, 150, 151, 152, 153, 154, 155, 156, 157, 158, 159, 160, 161, 162, 163, 164, 165, 166, 167, 174, 175, 176, 177, 178, 179, 180, 181, 182, 183, 199, 200, 201, 202, 203, 204, 184, 185, 186, 187, 188, 189, 190, 191, 192, 193, 194, 195, 196, 197, 198] (by decide +kernel) (by decide +kernel)
set_option maxRecDepth 20000 in
theorem gX5_willMiss_X2_passHour : GoodIn wsX5_willMiss (wsV RX5 181 RX2 yX2_passHour wsX2_passHour) := goodIn_app (goodIn_of _ (by decide +kernel)) ggX5_willMiss_X2_passHour
theorem dX5_willMiss_0 : decode cX5_willMiss 0 = .ok (.aload_n 0, 1) := by decide +kernel
theorem dX5_willMiss_1 : decode cX5_willMiss 1 = .ok (.getfield 10, 3) := by decide +kernel
theorem dX5_willMiss_4 : decode cX5_willMiss 4 = .ok (.iload_n 1, 1) := by decide +kernel
theorem dX5_willMiss_5 : decode cX5_willMiss 5 = .ok (.invokevirtual 86, 3) := by decide +kernel
theorem dX5_willMiss_8 : decode cX5_willMiss 8 = .ok (.ifCond .ne 6, 3) := by decide +kernel
theorem dX5_willMiss_11 : decode cX5_willMiss 11 = .ok (.bipush (-101), 2) := by decide +kernel
theorem dX5_willMiss_13 : decode cX5_willMiss 13 = .ok (.ireturn, 1) := by decide +kernel
theorem dX5_willMiss_14 : decode cX5_willMiss 14 = .ok (.iload_n 2, 1) := by decide +kernel
theorem dX5_willMiss_15 : decode cX5_willMiss 15 = .ok (.iconst 1, 1) := by decide +kernel
theorem dX5_willMiss_16 : decode cX5_willMiss 16 = .ok (.bipush 48, 2) := by decide +kernel
theorem dX5_willMiss_18 : decode cX5_willMiss 18 = .ok (.invokestatic 73, 3) := by decide +kernel
theorem dX5_willMiss_21 : decode cX5_willMiss 21 = .ok (.ifCond .ne 6, 3) := by decide +kernel
theorem dX5_willMiss_24 : decode cX5_willMiss 24 = .ok (.bipush (-102), 2) := by decide +kernel
theorem dX5_willMiss_26 : decode cX5_willMiss 26 = .ok (.ireturn, 1) := by decide +kernel
theorem dX5_willMiss_27 : decode cX5_willMiss 27 = .ok (.aload_n 0, 1) := by decide +kernel
theorem dX5_willMiss_28 : decode cX5_willMiss 28 = .ok (.getfield 16, 3) := by decide +kernel
theorem dX5_willMiss_31 : decode cX5_willMiss 31 = .ok (.aload_n 0, 1) := by decide +kernel
theorem dX5_willMiss_32 : decode cX5_willMiss 32 = .ok (.getfield 10, 3) := by decide +kernel
theorem dX5_willMiss_35 : decode cX5_willMiss 35 = .ok (.invokevirtual 172, 3) := by decide +kernel
theorem dX5_willMiss_38 : decode cX5_willMiss 38 = .ok (.iconst 0, 1) := by decide +kernel
theorem dX5_willMiss_39 : decode cX5_willMiss 39 = .ok (.istore_n 3, 1) := by decide +kernel
theorem dX5_willMiss_40 : decode cX5_willMiss 40 = .ok (.iload_n 3, 1) := by decide +kernel
theorem dX5_willMiss_41 : decode cX5_willMiss 41 = .ok (.iload_n 2, 1) := by decide +kernel
theorem dX5_willMiss_42 : decode cX5_willMiss 42 = .ok (.if_icmp .ge 21, 3) := by decide +kernel
theorem dX5_willMiss_45 : decode cX5_willMiss 45 = .ok (.aload_n 0, 1) := by decide +kernel
theorem dX5_willMiss_46 : decode cX5_willMiss 46 = .ok (.getfield 16, 3) := by decide +kernel
theorem dX5_willMiss_49 : decode cX5_willMiss 49 = .ok (.aload_n 0, 1) := by decide +kernel
theorem dX5_willMiss_50 : decode cX5_willMiss 50 = .ok (.getfield 30, 3) := by decide +kernel
theorem dX5_willMiss_53 : decode cX5_willMiss 53 = .ok (.invokevirtual 181, 3) := by decide +kernel
theorem dX5_willMiss_56 : decode cX5_willMiss 56 = .ok (.pop, 1) := by decide +kernel
theorem dX5_willMiss_57 : decode cX5_willMiss 57 = .ok (.iinc 3 1, 3) := by decide +kernel
theorem dX5_willMiss_60 : decode cX5_willMiss 60 = .ok (.goto (-20), 3) := by decide +kernel
theorem dX5_willMiss_63 : decode cX5_willMiss 63 = .ok (.aload_n 0, 1) := by decide +kernel
theorem dX5_willMiss_64 : decode cX5_willMiss 64 = .ok (.getfield 16, 3) := by decide +kernel
theorem dX5_willMiss_67 : decode cX5_willMiss 67 = .ok (.getfield 92, 3) := by decide +kernel
theorem dX5_willMiss_70 : decode cX5_willMiss 70 = .ok (.iload_n 1, 1) := by decide +kernel
theorem dX5_willMiss_71 : decode cX5_willMiss 71 = .ok (.aaload, 1) := by decide +kernel
theorem dX5_willMiss_72 : decode cX5_willMiss 72 = .ok (.getfield 188, 3) := by decide +kernel
theorem dX5_willMiss_75 : decode cX5_willMiss 75 = .ok (.aload_n 0, 1) := by decide +kernel
theorem dX5_willMiss_76 : decode cX5_willMiss 76 = .ok (.getfield 10, 3) := by decide +kernel
theorem dX5_willMiss_79 : decode cX5_willMiss 79 = .ok (.getfield 92, 3) := by decide +kernel
theorem dX5_willMiss_82 : decode cX5_willMiss 82 = .ok (.iload_n 1, 1) := by decide +kernel
theorem dX5_willMiss_83 : decode cX5_willMiss 83 = .ok (.aaload, 1) := by decide +kernel
theorem dX5_willMiss_84 : decode cX5_willMiss 84 = .ok (.getfield 188, 3) := by decide +kernel
theorem dX5_willMiss_87 : decode cX5_willMiss 87 = .ok (.isub, 1) := by decide +kernel
theorem dX5_willMiss_88 : decode cX5_willMiss 88 = .ok (.ireturn, 1) := by decide +kernel
set_option maxRecDepth 20000 in
theorem ggX5_gain_X2_hasUser : GoodIn wsX5_gain wsX2_hasUser := goodIn_r _ [6, 7, 163, 164, 165, 166, 167, 168, 169, 170, 171, 172] (by decide +kernel) (by decide +kernel)
set_option maxRecDepth 20000 in
theorem gX5_gain_X2_hasUser : GoodIn wsX5_gain (wsV RX5 86 RX2 yX2_hasUser wsX2_hasUser) := goodIn_app (goodIn_of _ (by decide +kernel)) ggX5_gain_X2_hasUser
set_option maxRecDepth 20000 in
theorem ggX5_gain_X2_isYounger : GoodIn wsX5_gain wsX2_isYounger := goodIn_r _ [11, 12, 13, 163, 164, 165, 166, 167, 168, 169, 170, 171, 172, 173, 174, 175, 176, 177, 178, 179, 180, 181, 182, 183, 184] (by decide +kernel) (by decide +kernel)
set_option maxRecDepth 20000 in
theorem gX5_gain_X2_isYounger : GoodIn wsX5_gain (wsV RX5 194 RX2 yX2_isYounger wsX2_isYounger) := goodIn_app (goodIn_of _ (by decide +kernel)) ggX5_gain_X2_isYounger
set_option maxRecDepth 20000 in
theorem ggX5_gain_X5_gainOf : GoodIn wsX5_gain wsX5_gainOf := goodIn_r _ [18, 19, 1, 20, 21, 22, 23, 24, 25, 26, 27, 28, 29, 30, 31, 32, 33, 34, 35, 36, 37, 5, 38, 39, 40, 41, 42, 43, 44, 45, 46, 47, 48, 49, 50, 51, 52, 7, 12, 53, 54, 55, 56, 57, 58, 59, 60, 61, 62, 63, 64, 65, 66, 67, 68, 69, 70, 71, 72, 73, 74, 75, 76, 77, 78, 79, 80, 81, 82, 83, 84, 85, 86, 87, 88, 89, 90, 91, 92, 93, 94, 95, 96, 97, 98, 99, 100, 101, 102, 103, 104, 105, 106, 107, 108, 109, 3, 4, 6, 110, 111, 112, 113, 114, 115, 116, 117, 118, 119, 120, 121, 122, 123, 124, 125, 126, 127, 128, 129, 130, 131, 132, 133, 134, 135, 136, 137, 138, 139, 140, 141, 142, 143, 144, 145, 146, 147, 148, 149, 150, 151, 152, 153, 154, 155, 156, 157, 158, 159, 160, 161, 162, 185, 186, 187, 188, 189, 190, 163, 164, 165, 166, 167, 168, 169, 170, 171, 172, 173, 174, 175, 176, 177, 178, 179, 180, 181, 182, 183, 184, 191, 192, 193] (by decide +kernel) (by decide +kernel)
set_option maxRecDepth 20000 in
theorem gX5_gain_X5_gainOf : GoodIn wsX5_gain (wsV RX5 197 RX5 yX5_gainOf wsX5_gainOf) := goodIn_app (goodIn_of _ (by decide +kernel)) ggX5_gain_X5_gainOf
theorem dX5_gain_0 : decode cX5_gain 0 = .ok (.aload_n 0, 1) := by decide +kernel
theorem dX5_gain_1 : decode cX5_gain 1 = .ok (.getfield 10, 3) := by decide +kernel
theorem dX5_gain_4 : decode cX5_gain 4 = .ok (.iload_n 1, 1) := by decide +kernel
theorem dX5_gain_5 : decode cX5_gain 5 = .ok (.invokevirtual 86, 3) := by decide +kernel
theorem dX5_gain_8 : decode cX5_gain 8 = .ok (.ifCond .eq 14, 3) := by decide +kernel
theorem dX5_gain_11 : decode cX5_gain 11 = .ok (.aload_n 0, 1) := by decide +kernel
theorem dX5_gain_12 : decode cX5_gain 12 = .ok (.getfield 10, 3) := by decide +kernel
theorem dX5_gain_15 : decode cX5_gain 15 = .ok (.iload_n 2, 1) := by decide +kernel
theorem dX5_gain_16 : decode cX5_gain 16 = .ok (.invokevirtual 86, 3) := by decide +kernel
theorem dX5_gain_19 : decode cX5_gain 19 = .ok (.ifCond .ne 6, 3) := by decide +kernel
theorem dX5_gain_22 : decode cX5_gain 22 = .ok (.bipush (-101), 2) := by decide +kernel
theorem dX5_gain_24 : decode cX5_gain 24 = .ok (.ireturn, 1) := by decide +kernel
theorem dX5_gain_25 : decode cX5_gain 25 = .ok (.aload_n 0, 1) := by decide +kernel
theorem dX5_gain_26 : decode cX5_gain 26 = .ok (.getfield 10, 3) := by decide +kernel
theorem dX5_gain_29 : decode cX5_gain 29 = .ok (.iload_n 2, 1) := by decide +kernel
theorem dX5_gain_30 : decode cX5_gain 30 = .ok (.iload_n 1, 1) := by decide +kernel
theorem dX5_gain_31 : decode cX5_gain 31 = .ok (.invokevirtual 194, 3) := by decide +kernel
theorem dX5_gain_34 : decode cX5_gain 34 = .ok (.ifCond .ne 6, 3) := by decide +kernel
theorem dX5_gain_37 : decode cX5_gain 37 = .ok (.bipush (-103), 2) := by decide +kernel
theorem dX5_gain_39 : decode cX5_gain 39 = .ok (.ireturn, 1) := by decide +kernel
theorem dX5_gain_40 : decode cX5_gain 40 = .ok (.aload_n 0, 1) := by decide +kernel
theorem dX5_gain_41 : decode cX5_gain 41 = .ok (.iload_n 1, 1) := by decide +kernel
theorem dX5_gain_42 : decode cX5_gain 42 = .ok (.iload_n 2, 1) := by decide +kernel
theorem dX5_gain_43 : decode cX5_gain 43 = .ok (.invokevirtual 197, 3) := by decide +kernel
theorem dX5_gain_46 : decode cX5_gain 46 = .ok (.ireturn, 1) := by decide +kernel
set_option maxRecDepth 20000 in
theorem ggX5_complaint_X2_hasUser : GoodIn wsX5_complaint wsX2_hasUser := goodIn_r _ [6, 7, 172, 173, 174, 175, 176, 177, 178, 179, 180, 181] (by decide +kernel) (by decide +kernel)
set_option maxRecDepth 20000 in
theorem gX5_complaint_X2_hasUser : GoodIn wsX5_complaint (wsV RX5 86 RX2 yX2_hasUser wsX2_hasUser) := goodIn_app (goodIn_of _ (by decide +kernel)) ggX5_complaint_X2_hasUser
set_option maxRecDepth 20000 in
theorem ggX5_complaint_X2_isYounger : GoodIn wsX5_complaint wsX2_isYounger := goodIn_r _ [11, 12, 13, 172, 173, 174, 175, 176, 177, 178, 179, 180, 181, 182, 183, 184, 185, 186, 187, 188, 189, 190, 191, 192, 193] (by decide +kernel) (by decide +kernel)
set_option maxRecDepth 20000 in
theorem gX5_complaint_X2_isYounger : GoodIn wsX5_complaint (wsV RX5 194 RX2 yX2_isYounger wsX2_isYounger) := goodIn_app (goodIn_of _ (by decide +kernel)) ggX5_complaint_X2_isYounger
set_option maxRecDepth 20000 in
theorem ggX5_complaint_X5_judge : GoodIn wsX5_complaint wsX5_judge := goodIn_r _ [18, 19, 1, 20, 21, 22, 23, 24, 25, 26, 27, 28, 29, 30, 31, 32, 33, 34, 35, 5, 36, 37, 38, 39, 40, 41, 42, 43, 44, 45, 46, 47, 48, 49, 50, 7, 12, 51, 52, 53, 54, 55, 56, 57, 58, 59, 60, 61, 62, 63, 64, 65, 66, 67, 68, 69, 70, 71, 72, 73, 74, 75, 76, 77, 78, 79, 80, 81, 82, 83, 84, 85, 86, 87, 88, 89, 90, 91, 92, 93, 94, 95, 96, 97, 98, 99, 100, 101, 102, 103, 104, 105, 106, 107, 3, 4, 6, 108, 109, 110, 111, 112, 113, 114, 115, 116, 117, 118, 119, 120, 121, 122, 123, 124, 125, 126, 127, 128, 17, 129, 130, 131, 132, 133, 134, 135, 136, 137, 138, 139, 140, 141, 142, 143, 144, 145, 146, 147, 148, 149, 150, 151, 152, 153, 154, 155, 156, 157, 158, 159, 160, 161, 162, 163, 164, 165, 166, 167, 168, 169, 170, 171, 194, 195, 196, 197, 198, 199, 172, 173, 174, 175, 176, 177, 178, 179, 180, 181, 182, 183, 184, 185, 186, 187, 188, 189, 190, 191, 192, 193, 200, 201, 202] (by decide +kernel) (by decide +kernel)
set_option maxRecDepth 20000 in
theorem gX5_complaint_X5_judge : GoodIn wsX5_complaint (wsV RX5 200 RX5 yX5_judge wsX5_judge) := goodIn_app (goodIn_of _ (by decide +kernel)) ggX5_complaint_X5_judge
theorem dX5_complaint_0 : decode cX5_complaint 0 = .ok (.aload_n 0, 1) := by decide +kernel
theorem dX5_complaint_1 : decode cX5_complaint 1 = .ok (.getfield 10, 3) := by decide +kernel
theorem dX5_complaint_4 : decode cX5_complaint 4 = .ok (.iload_n 1, 1) := by decide +kernel
theorem dX5_complaint_5 : decode cX5_complaint 5 = .ok (.invokevirtual 86, 3) := by decide +kernel
theorem dX5_complaint_8 : decode cX5_complaint 8 = .ok (.ifCond .eq 14, 3) := by decide +kernel
theorem dX5_complaint_11 : decode cX5_complaint 11 = .ok (.aload_n 0, 1) := by decide +kernel
theorem dX5_complaint_12 : decode cX5_complaint 12 = .ok (.getfield 10, 3) := by decide +kernel
theorem dX5_complaint_15 : decode cX5_complaint 15 = .ok (.iload_n 2, 1) := by decide +kernel
theorem dX5_complaint_16 : decode cX5_complaint 16 = .ok (.invokevirtual 86, 3) := by decide +kernel
theorem dX5_complaint_19 : decode cX5_complaint 19 = .ok (.ifCond .ne 6, 3) := by decide +kernel
theorem dX5_complaint_22 : decode cX5_complaint 22 = .ok (.bipush (-101), 2) := by decide +kernel
theorem dX5_complaint_24 : decode cX5_complaint 24 = .ok (.ireturn, 1) := by decide +kernel
theorem dX5_complaint_25 : decode cX5_complaint 25 = .ok (.aload_n 0, 1) := by decide +kernel
theorem dX5_complaint_26 : decode cX5_complaint 26 = .ok (.getfield 10, 3) := by decide +kernel
theorem dX5_complaint_29 : decode cX5_complaint 29 = .ok (.iload_n 2, 1) := by decide +kernel
theorem dX5_complaint_30 : decode cX5_complaint 30 = .ok (.iload_n 1, 1) := by decide +kernel
theorem dX5_complaint_31 : decode cX5_complaint 31 = .ok (.invokevirtual 194, 3) := by decide +kernel
theorem dX5_complaint_34 : decode cX5_complaint 34 = .ok (.ifCond .ne 6, 3) := by decide +kernel
theorem dX5_complaint_37 : decode cX5_complaint 37 = .ok (.bipush (-103), 2) := by decide +kernel
theorem dX5_complaint_39 : decode cX5_complaint 39 = .ok (.ireturn, 1) := by decide +kernel
theorem dX5_complaint_40 : decode cX5_complaint 40 = .ok (.aload_n 0, 1) := by decide +kernel
theorem dX5_complaint_41 : decode cX5_complaint 41 = .ok (.iload_n 1, 1) := by decide +kernel
theorem dX5_complaint_42 : decode cX5_complaint 42 = .ok (.iload_n 2, 1) := by decide +kernel
theorem dX5_complaint_43 : decode cX5_complaint 43 = .ok (.invokevirtual 200, 3) := by decide +kernel
theorem dX5_complaint_46 : decode cX5_complaint 46 = .ok (.ireturn, 1) := by decide +kernel
set_option maxRecDepth 20000 in
theorem ggX5_settle_X5_judge : GoodIn wsX5_settle wsX5_judge := goodIn_r _ [10, 11, 1, 12, 13, 14, 15, 16, 17, 18, 19, 20, 21, 22, 23, 24, 25, 26, 27, 28, 29, 30, 31, 32, 33, 34, 35, 36, 37, 38, 39, 40, 41, 42, 43, 44, 45, 46, 47, 48, 49, 50, 51, 52, 53, 54, 55, 56, 57, 58, 59, 60, 61, 62, 63, 64, 65, 66, 67, 68, 69, 70, 71, 72, 73, 74, 75, 76, 77, 78, 79, 80, 81, 82, 83, 84, 85, 86, 87, 88, 89, 90, 91, 92, 93, 94, 95, 96, 97, 98, 99, 100, 101, 102, 103, 104, 105, 106, 107, 108, 109, 110, 111, 112, 113, 114, 115, 116, 117, 118, 119, 120, 121, 122, 123, 124, 125, 126, 9, 127, 128, 4, 5, 129, 130, 131, 132, 133, 134, 135, 136, 137, 138, 139, 140, 141, 142, 143, 144, 145, 146, 147, 148, 149, 150, 151, 152, 153, 154, 155, 156, 157, 158, 159, 160, 161, 162, 163, 164, 165, 166, 167, 190, 191, 192, 193, 194, 195, 168, 169, 170, 171, 172, 173, 174, 175, 176, 177, 178, 179, 180, 181, 182, 183, 184, 185, 186, 187, 188, 189, 196, 197, 198] (by decide +kernel) (by decide +kernel)
set_option maxRecDepth 20000 in
theorem gX5_settle_X5_judge : GoodIn wsX5_settle (wsV RX5 200 RX5 yX5_judge wsX5_judge) := goodIn_app (goodIn_of _ (by decide +kernel)) ggX5_settle_X5_judge
theorem dX5_settle_0 : decode cX5_settle 0 = .ok (.iconst 0, 1) := by decide +kernel
theorem dX5_settle_1 : decode cX5_settle 1 = .ok (.istore_n 1, 1) := by decide +kernel
theorem dX5_settle_2 : decode cX5_settle 2 = .ok (.iconst 0, 1) := by decide +kernel
theorem dX5_settle_3 : decode cX5_settle 3 = .ok (.istore_n 2, 1) := by decide +kernel
theorem dX5_settle_4 : decode cX5_settle 4 = .ok (.iload_n 2, 1) := by decide +kernel
theorem dX5_settle_5 : decode cX5_settle 5 = .ok (.aload_n 0, 1) := by decide +kernel
theorem dX5_settle_6 : decode cX5_settle 6 = .ok (.getfield 10, 3) := by decide +kernel
theorem dX5_settle_9 : decode cX5_settle 9 = .ok (.getfield 83, 3) := by decide +kernel
theorem dX5_settle_12 : decode cX5_settle 12 = .ok (.if_icmp .ge 80, 3) := by decide +kernel
theorem dX5_settle_15 : decode cX5_settle 15 = .ok (.aload_n 0, 1) := by decide +kernel
theorem dX5_settle_16 : decode cX5_settle 16 = .ok (.getfield 10, 3) := by decide +kernel
theorem dX5_settle_19 : decode cX5_settle 19 = .ok (.getfield 83, 3) := by decide +kernel
theorem dX5_settle_22 : decode cX5_settle 22 = .ok (.iconst 1, 1) := by decide +kernel
theorem dX5_settle_23 : decode cX5_settle 23 = .ok (.isub, 1) := by decide +kernel
theorem dX5_settle_24 : decode cX5_settle 24 = .ok (.istore_n 3, 1) := by decide +kernel
theorem dX5_settle_25 : decode cX5_settle 25 = .ok (.iload_n 3, 1) := by decide +kernel
theorem dX5_settle_26 : decode cX5_settle 26 = .ok (.iload_n 2, 1) := by decide +kernel
theorem dX5_settle_27 : decode cX5_settle 27 = .ok (.if_icmp .le 59, 3) := by decide +kernel
theorem dX5_settle_30 : decode cX5_settle 30 = .ok (.aload_n 0, 1) := by decide +kernel
theorem dX5_settle_31 : decode cX5_settle 31 = .ok (.aload_n 0, 1) := by decide +kernel
theorem dX5_settle_32 : decode cX5_settle 32 = .ok (.getfield 10, 3) := by decide +kernel
theorem dX5_settle_35 : decode cX5_settle 35 = .ok (.getfield 138, 3) := by decide +kernel
theorem dX5_settle_38 : decode cX5_settle 38 = .ok (.iload_n 2, 1) := by decide +kernel
theorem dX5_settle_39 : decode cX5_settle 39 = .ok (.iaload, 1) := by decide +kernel
theorem dX5_settle_40 : decode cX5_settle 40 = .ok (.aload_n 0, 1) := by decide +kernel
theorem dX5_settle_41 : decode cX5_settle 41 = .ok (.getfield 10, 3) := by decide +kernel
theorem dX5_settle_44 : decode cX5_settle 44 = .ok (.getfield 138, 3) := by decide +kernel
theorem dX5_settle_47 : decode cX5_settle 47 = .ok (.iload_n 3, 1) := by decide +kernel
theorem dX5_settle_48 : decode cX5_settle 48 = .ok (.iaload, 1) := by decide +kernel
theorem dX5_settle_49 : decode cX5_settle 49 = .ok (.invokevirtual 200, 3) := by decide +kernel
theorem dX5_settle_52 : decode cX5_settle 52 = .ok (.iconst 2, 1) := by decide +kernel
theorem dX5_settle_53 : decode cX5_settle 53 = .ok (.if_icmp .ne 27, 3) := by decide +kernel
theorem dX5_settle_56 : decode cX5_settle 56 = .ok (.aload_n 0, 1) := by decide +kernel
theorem dX5_settle_57 : decode cX5_settle 57 = .ok (.getfield 10, 3) := by decide +kernel
theorem dX5_settle_60 : decode cX5_settle 60 = .ok (.getfield 92, 3) := by decide +kernel
theorem dX5_settle_63 : decode cX5_settle 63 = .ok (.aload_n 0, 1) := by decide +kernel
theorem dX5_settle_64 : decode cX5_settle 64 = .ok (.getfield 10, 3) := by decide +kernel
theorem dX5_settle_67 : decode cX5_settle 67 = .ok (.getfield 138, 3) := by decide +kernel
theorem dX5_settle_70 : decode cX5_settle 70 = .ok (.iload_n 3, 1) := by decide +kernel
theorem dX5_settle_71 : decode cX5_settle 71 = .ok (.iaload, 1) := by decide +kernel
theorem dX5_settle_72 : decode cX5_settle 72 = .ok (.aaload, 1) := by decide +kernel
theorem dX5_settle_73 : decode cX5_settle 73 = .ok (.iconst 1, 1) := by decide +kernel
theorem dX5_settle_74 : decode cX5_settle 74 = .ok (.putfield 203, 3) := by decide +kernel
theorem dX5_settle_77 : decode cX5_settle 77 = .ok (.iinc 1 1, 3) := by decide +kernel
theorem dX5_settle_80 : decode cX5_settle 80 = .ok (.iinc 3 (-1), 3) := by decide +kernel
theorem dX5_settle_83 : decode cX5_settle 83 = .ok (.goto (-58), 3) := by decide +kernel
theorem dX5_settle_86 : decode cX5_settle 86 = .ok (.iinc 2 1, 3) := by decide +kernel
theorem dX5_settle_89 : decode cX5_settle 89 = .ok (.goto (-85), 3) := by decide +kernel
theorem dX5_settle_92 : decode cX5_settle 92 = .ok (.iload_n 1, 1) := by decide +kernel
theorem dX5_settle_93 : decode cX5_settle 93 = .ok (.ireturn, 1) := by decide +kernel
set_option maxRecDepth 20000 in
theorem ggX5_isShut_X2_hasUser : GoodIn wsX5_isShut wsX2_hasUser := goodIn_r _ [8, 9, 16, 17, 18, 19, 20, 21, 22, 23, 24, 25] (by decide +kernel) (by decide +kernel)
set_option maxRecDepth 20000 in
theorem gX5_isShut_X2_hasUser : GoodIn wsX5_isShut (wsV RX5 86 RX2 yX2_hasUser wsX2_hasUser) := goodIn_app (goodIn_of _ (by decide +kernel)) ggX5_isShut_X2_hasUser
theorem dX5_isShut_0 : decode cX5_isShut 0 = .ok (.aload_n 0, 1) := by decide +kernel
theorem dX5_isShut_1 : decode cX5_isShut 1 = .ok (.getfield 10, 3) := by decide +kernel
theorem dX5_isShut_4 : decode cX5_isShut 4 = .ok (.iload_n 1, 1) := by decide +kernel
theorem dX5_isShut_5 : decode cX5_isShut 5 = .ok (.invokevirtual 86, 3) := by decide +kernel
theorem dX5_isShut_8 : decode cX5_isShut 8 = .ok (.ifCond .ne 6, 3) := by decide +kernel
theorem dX5_isShut_11 : decode cX5_isShut 11 = .ok (.bipush (-101), 2) := by decide +kernel
theorem dX5_isShut_13 : decode cX5_isShut 13 = .ok (.ireturn, 1) := by decide +kernel
theorem dX5_isShut_14 : decode cX5_isShut 14 = .ok (.aload_n 0, 1) := by decide +kernel
theorem dX5_isShut_15 : decode cX5_isShut 15 = .ok (.getfield 10, 3) := by decide +kernel
theorem dX5_isShut_18 : decode cX5_isShut 18 = .ok (.getfield 92, 3) := by decide +kernel
theorem dX5_isShut_21 : decode cX5_isShut 21 = .ok (.iload_n 1, 1) := by decide +kernel
theorem dX5_isShut_22 : decode cX5_isShut 22 = .ok (.aaload, 1) := by decide +kernel
theorem dX5_isShut_23 : decode cX5_isShut 23 = .ok (.getfield 203, 3) := by decide +kernel
theorem dX5_isShut_26 : decode cX5_isShut 26 = .ok (.ifCond .eq 7, 3) := by decide +kernel
theorem dX5_isShut_29 : decode cX5_isShut 29 = .ok (.iconst 1, 1) := by decide +kernel
theorem dX5_isShut_30 : decode cX5_isShut 30 = .ok (.goto 4, 3) := by decide +kernel
theorem dX5_isShut_33 : decode cX5_isShut 33 = .ok (.iconst 0, 1) := by decide +kernel
theorem dX5_isShut_34 : decode cX5_isShut 34 = .ok (.ireturn, 1) := by decide +kernel
set_option maxRecDepth 20000 in
theorem ggX5_append_X5_isWithin : GoodIn wsX5_append wsX5_isWithin := goodIn_r _ [6] (by decide +kernel) (by decide +kernel)
set_option maxRecDepth 20000 in
theorem gX5_append_X5_isWithin : GoodIn wsX5_append (va_wsS RX5 73 yX5_isWithin wsX5_isWithin) := goodIn_app (goodIn_of _ (by decide +kernel)) ggX5_append_X5_isWithin
set_option maxRecDepth 20000 in
theorem ggX5_append_X3_isFull : GoodIn wsX5_append wsX3_isFull := goodIn_r _ [11, 12, 25, 26, 27, 28, 29] (by decide +kernel) (by decide +kernel)
set_option maxRecDepth 20000 in
theorem gX5_append_X3_isFull : GoodIn wsX5_append (wsV RX5 207 RX3 yX3_isFull wsX3_isFull) := goodIn_app (goodIn_of _ (by decide +kernel)) ggX5_append_X3_isFull
set_option maxRecDepth 20000 in
theorem ggX5_append_X3_put : GoodIn wsX5_append wsX3_put := goodIn_r _ [16, 17, 12, 18, 8, 9, 10, 11, 25, 26, 27, 28, 29] (by decide +kernel) (by decide +kernel)
set_option maxRecDepth 20000 in
theorem gX5_append_X3_put : GoodIn wsX5_append (wsV RX5 210 RX3 yX3_put wsX3_put) := goodIn_app (goodIn_of _ (by decide +kernel)) ggX5_append_X3_put
theorem dX5_append_0 : decode cX5_append 0 = .ok (.iload_n 1, 1) := by decide +kernel
theorem dX5_append_1 : decode cX5_append 1 = .ok (.iconst 0, 1) := by decide +kernel
theorem dX5_append_2 : decode cX5_append 2 = .ok (.bipush 127, 2) := by decide +kernel
theorem dX5_append_4 : decode cX5_append 4 = .ok (.invokestatic 73, 3) := by decide +kernel
theorem dX5_append_7 : decode cX5_append 7 = .ok (.ifCond .ne 6, 3) := by decide +kernel
theorem dX5_append_10 : decode cX5_append 10 = .ok (.bipush (-102), 2) := by decide +kernel
theorem dX5_append_12 : decode cX5_append 12 = .ok (.ireturn, 1) := by decide +kernel
theorem dX5_append_13 : decode cX5_append 13 = .ok (.aload_n 0, 1) := by decide +kernel
theorem dX5_append_14 : decode cX5_append 14 = .ok (.getfield 37, 3) := by decide +kernel
theorem dX5_append_17 : decode cX5_append 17 = .ok (.invokevirtual 207, 3) := by decide +kernel
theorem dX5_append_20 : decode cX5_append 20 = .ok (.ifCond .eq 6, 3) := by decide +kernel
theorem dX5_append_23 : decode cX5_append 23 = .ok (.bipush (-104), 2) := by decide +kernel
theorem dX5_append_25 : decode cX5_append 25 = .ok (.ireturn, 1) := by decide +kernel
theorem dX5_append_26 : decode cX5_append 26 = .ok (.aload_n 0, 1) := by decide +kernel
theorem dX5_append_27 : decode cX5_append 27 = .ok (.getfield 37, 3) := by decide +kernel
theorem dX5_append_30 : decode cX5_append 30 = .ok (.iload_n 1, 1) := by decide +kernel
theorem dX5_append_31 : decode cX5_append 31 = .ok (.invokevirtual 210, 3) := by decide +kernel
theorem dX5_append_34 : decode cX5_append 34 = .ok (.aload_n 0, 1) := by decide +kernel
theorem dX5_append_35 : decode cX5_append 35 = .ok (.getfield 37, 3) := by decide +kernel
theorem dX5_append_38 : decode cX5_append 38 = .ok (.getfield 214, 3) := by decide +kernel
theorem dX5_append_41 : decode cX5_append 41 = .ok (.ireturn, 1) := by decide +kernel
set_option maxRecDepth 20000 in
theorem ggX5_save_X5_isWithin : GoodIn wsX5_save wsX5_isWithin := goodIn_r _ [8] (by decide +kernel) (by decide +kernel)
set_option maxRecDepth 20000 in
theorem gX5_save_X5_isWithin : GoodIn wsX5_save (va_wsS RX5 73 yX5_isWithin wsX5_isWithin) := goodIn_app (goodIn_of _ (by decide +kernel)) ggX5_save_X5_isWithin
set_option maxRecDepth 20000 in
theorem ggX5_save_X2_copyFrom : GoodIn wsX5_save wsX2_copyFrom := goodIn_r _ [13, 14, 15, 16, 17, 18, 19, 20, 21, 22, 23, 24, 25, 26, 27, 28, 29, 30, 31, 32, 33, 34, 35, 36, 37, 38, 39, 40, 41, 42, 43, 44, 45, 46, 47, 48, 49, 50, 51, 52, 53, 54, 55, 62, 63, 64, 65, 66, 67, 68, 69, 70, 71, 72, 73, 74, 75, 76, 77, 78, 79, 80, 81, 82, 83, 84, 85, 86] (by decide +kernel) (by decide +kernel)
set_option maxRecDepth 20000 in
theorem gX5_save_X2_copyFrom : GoodIn wsX5_save (wsV RX5 172 RX2 yX2_copyFrom wsX2_copyFrom) := goodIn_app (goodIn_of _ (by decide +kernel)) ggX5_save_X2_copyFrom
theorem dX5_save_0 : decode cX5_save 0 = .ok (.iload_n 1, 1) := by decide +kernel
theorem dX5_save_1 : decode cX5_save 1 = .ok (.iconst 0, 1) := by decide +kernel
theorem dX5_save_2 : decode cX5_save 2 = .ok (.iconst 1, 1) := by decide +kernel
theorem dX5_save_3 : decode cX5_save 3 = .ok (.invokestatic 73, 3) := by decide +kernel
theorem dX5_save_6 : decode cX5_save 6 = .ok (.ifCond .ne 6, 3) := by decide +kernel
theorem dX5_save_9 : decode cX5_save 9 = .ok (.bipush (-101), 2) := by decide +kernel
theorem dX5_save_11 : decode cX5_save 11 = .ok (.ireturn, 1) := by decide +kernel
theorem dX5_save_12 : decode cX5_save 12 = .ok (.aload_n 0, 1) := by decide +kernel
theorem dX5_save_13 : decode cX5_save 13 = .ok (.getfield 19, 3) := by decide +kernel
theorem dX5_save_16 : decode cX5_save 16 = .ok (.iload_n 1, 1) := by decide +kernel
theorem dX5_save_17 : decode cX5_save 17 = .ok (.aaload, 1) := by decide +kernel
theorem dX5_save_18 : decode cX5_save 18 = .ok (.aload_n 0, 1) := by decide +kernel
theorem dX5_save_19 : decode cX5_save 19 = .ok (.getfield 10, 3) := by decide +kernel
theorem dX5_save_22 : decode cX5_save 22 = .ok (.invokevirtual 172, 3) := by decide +kernel
theorem dX5_save_25 : decode cX5_save 25 = .ok (.aload_n 0, 1) := by decide +kernel
theorem dX5_save_26 : decode cX5_save 26 = .ok (.getfield 23, 3) := by decide +kernel
theorem dX5_save_29 : decode cX5_save 29 = .ok (.iload_n 1, 1) := by decide +kernel
theorem dX5_save_30 : decode cX5_save 30 = .ok (.iconst 1, 1) := by decide +kernel
theorem dX5_save_31 : decode cX5_save 31 = .ok (.bastore, 1) := by decide +kernel
theorem dX5_save_32 : decode cX5_save 32 = .ok (.aload_n 0, 1) := by decide +kernel
theorem dX5_save_33 : decode cX5_save 33 = .ok (.getfield 10, 3) := by decide +kernel
theorem dX5_save_36 : decode cX5_save 36 = .ok (.getfield 141, 3) := by decide +kernel
theorem dX5_save_39 : decode cX5_save 39 = .ok (.ireturn, 1) := by decide +kernel
set_option maxRecDepth 20000 in
theorem ggX5_restore_X5_isWithin : GoodIn wsX5_restore wsX5_isWithin := goodIn_r _ [8] (by decide +kernel) (by decide +kernel)
set_option maxRecDepth 20000 in
theorem gX5_restore_X5_isWithin : GoodIn wsX5_restore (va_wsS RX5 73 yX5_isWithin wsX5_isWithin) := goodIn_app (goodIn_of _ (by decide +kernel)) ggX5_restore_X5_isWithin
set_option maxRecDepth 20000 in
theorem ggX5_restore_X2_copyFrom : GoodIn wsX5_restore wsX2_copyFrom := goodIn_r _ [13, 14, 15, 16, 17, 18, 19, 20, 21, 22, 23, 24, 25, 26, 27, 28, 29, 30, 31, 32, 33, 34, 35, 36, 37, 38, 39, 40, 41, 42, 43, 44, 45, 46, 47, 48, 49, 50, 51, 52, 53, 54, 55, 62, 63, 64, 65, 66, 67, 68, 69, 70, 71, 72, 73, 74, 75, 76, 77, 78, 79, 80, 81, 82, 83, 84, 85, 86] (by decide +kernel) (by decide +kernel)
set_option maxRecDepth 20000 in
theorem gX5_restore_X2_copyFrom : GoodIn wsX5_restore (wsV RX5 172 RX2 yX2_copyFrom wsX2_copyFrom) := goodIn_app (goodIn_of _ (by decide +kernel)) ggX5_restore_X2_copyFrom
theorem dX5_restore_0 : decode cX5_restore 0 = .ok (.iload_n 1, 1) := by decide +kernel
theorem dX5_restore_1 : decode cX5_restore 1 = .ok (.iconst 0, 1) := by decide +kernel
theorem dX5_restore_2 : decode cX5_restore 2 = .ok (.iconst 1, 1) := by decide +kernel
theorem dX5_restore_3 : decode cX5_restore 3 = .ok (.invokestatic 73, 3) := by decide +kernel
theorem dX5_restore_6 : decode cX5_restore 6 = .ok (.ifCond .ne 6, 3) := by decide +kernel
theorem dX5_restore_9 : decode cX5_restore 9 = .ok (.bipush (-101), 2) := by decide +kernel
theorem dX5_restore_11 : decode cX5_restore 11 = .ok (.ireturn, 1) := by decide +kernel
theorem dX5_restore_12 : decode cX5_restore 12 = .ok (.aload_n 0, 1) := by decide +kernel
theorem dX5_restore_13 : decode cX5_restore 13 = .ok (.getfield 23, 3) := by decide +kernel
theorem dX5_restore_16 : decode cX5_restore 16 = .ok (.iload_n 1, 1) := by decide +kernel
theorem dX5_restore_17 : decode cX5_restore 17 = .ok (.baload, 1) := by decide +kernel
theorem dX5_restore_18 : decode cX5_restore 18 = .ok (.ifCond .ne 6, 3) := by decide +kernel
theorem dX5_restore_21 : decode cX5_restore 21 = .ok (.bipush (-103), 2) := by decide +kernel
theorem dX5_restore_23 : decode cX5_restore 23 = .ok (.ireturn, 1) := by decide +kernel
theorem dX5_restore_24 : decode cX5_restore 24 = .ok (.aload_n 0, 1) := by decide +kernel
theorem dX5_restore_25 : decode cX5_restore 25 = .ok (.getfield 10, 3) := by decide +kernel
theorem dX5_restore_28 : decode cX5_restore 28 = .ok (.aload_n 0, 1) := by decide +kernel
theorem dX5_restore_29 : decode cX5_restore 29 = .ok (.getfield 19, 3) := by decide +kernel
theorem dX5_restore_32 : decode cX5_restore 32 = .ok (.iload_n 1, 1) := by decide +kernel
theorem dX5_restore_33 : decode cX5_restore 33 = .ok (.aaload, 1) := by decide +kernel
theorem dX5_restore_34 : decode cX5_restore 34 = .ok (.invokevirtual 172, 3) := by decide +kernel
theorem dX5_restore_37 : decode cX5_restore 37 = .ok (.aload_n 0, 1) := by decide +kernel
theorem dX5_restore_38 : decode cX5_restore 38 = .ok (.getfield 10, 3) := by decide +kernel
theorem dX5_restore_41 : decode cX5_restore 41 = .ok (.getfield 141, 3) := by decide +kernel
theorem dX5_restore_44 : decode cX5_restore 44 = .ok (.ireturn, 1) := by decide +kernel
set_option maxRecDepth 20000 in
theorem ggX5_checksum_X1_distribute : GoodIn wsX5_checksum wsX1_distribute := goodIn_r _ [14, 15, 16, 17, 18, 19, 20, 21, 22, 23, 24, 25, 26, 27, 28, 29, 30, 31, 32, 33, 34, 35, 36, 37, 38, 39, 40, 41, 42, 43, 44, 45, 46, 47, 48, 49, 50, 51, 52, 53, 54, 55, 56, 57, 58, 59, 60, 61, 62, 63, 64, 65, 66, 67, 68, 69, 70, 13, 71, 72, 73, 74, 75, 76, 77, 78, 79, 80, 81, 82, 83, 84, 85, 86, 87, 88, 89, 90, 91, 92, 93, 94, 95, 96, 97, 98, 99, 100, 101, 102, 103, 104, 105, 106, 107, 108, 109, 110, 111, 112, 113, 114, 115, 148, 149, 150, 151, 152, 153, 138, 139, 140, 141, 142, 143, 144, 145, 146, 147, 154, 155, 156, 157, 158, 159, 160, 161, 162, 163, 164, 165, 166, 167, 168] (by decide +kernel) (by decide +kernel)
set_option maxRecDepth 20000 in
theorem gX5_checksum_X1_distribute : GoodIn wsX5_checksum (wsV RX5 151 RX1 yX1_distribute wsX1_distribute) := goodIn_app (goodIn_of _ (by decide +kernel)) ggX5_checksum_X1_distribute
set_option maxRecDepth 20000 in
theorem ggX5_checksum_X1_lostIn : GoodIn wsX5_checksum wsX1_lostIn := goodIn_r _ [119, 84, 81, 148, 149, 150, 151, 152, 153] (by decide +kernel) (by decide +kernel)
set_option maxRecDepth 20000 in
theorem gX5_checksum_X1_lostIn : GoodIn wsX5_checksum (wsV RX5 161 RX1 yX1_lostIn wsX1_lostIn) := goodIn_app (goodIn_of _ (by decide +kernel)) ggX5_checksum_X1_lostIn
set_option maxRecDepth 20000 in
theorem ggX5_checksum_X5_withUser : GoodIn wsX5_checksum wsX5_withUser := goodIn_r _ [124, 2, 125, 4, 1, 126, 127, 128, 129, 130, 132, 133, 134, 135, 136, 137, 138, 139, 140, 141, 142, 143, 144, 145, 146, 147, 148, 149, 150, 151, 152, 153, 154, 155, 156, 157, 158, 159, 160, 161, 162, 163, 164, 165] (by decide +kernel) (by decide +kernel)
set_option maxRecDepth 20000 in
theorem gX5_checksum_X5_withUser : GoodIn wsX5_checksum (wsV RX5 230 RX5 yX5_withUser wsX5_withUser) := goodIn_app (goodIn_of _ (by decide +kernel)) ggX5_checksum_X5_withUser
set_option maxRecDepth 20000 in
theorem ggX5_checksum_X2_userInTurn : GoodIn wsX5_checksum wsX2_userInTurn := goodIn_r _ [39, 40, 41, 42, 43, 31, 32, 33, 34, 35, 138, 139, 140, 141, 142, 143, 144, 145, 146, 147, 154, 155, 156, 157, 158, 159, 160, 161, 162, 163, 164, 165] (by decide +kernel) (by decide +kernel)
set_option maxRecDepth 20000 in
theorem gX5_checksum_X2_userInTurn : GoodIn wsX5_checksum (wsV RX5 144 RX2 yX2_userInTurn wsX2_userInTurn) := goodIn_app (goodIn_of _ (by decide +kernel)) ggX5_checksum_X2_userInTurn
theorem dX5_checksum_0 : decode cX5_checksum 0 = .ok (.aload_n 0, 1) := by decide +kernel
theorem dX5_checksum_1 : decode cX5_checksum 1 = .ok (.getfield 30, 3) := by decide +kernel
theorem dX5_checksum_4 : decode cX5_checksum 4 = .ok (.aload_n 0, 1) := by decide +kernel
theorem dX5_checksum_5 : decode cX5_checksum 5 = .ok (.getfield 10, 3) := by decide +kernel
theorem dX5_checksum_8 : decode cX5_checksum 8 = .ok (.invokevirtual 151, 3) := by decide +kernel
theorem dX5_checksum_11 : decode cX5_checksum 11 = .ok (.ldc2_w 226, 3) := by decide +kernel
theorem dX5_checksum_14 : decode cX5_checksum 14 = .ok (.lstore_n 1, 1) := by decide +kernel
theorem dX5_checksum_15 : decode cX5_checksum 15 = .ok (.ldc2_w 228, 3) := by decide +kernel
theorem dX5_checksum_18 : decode cX5_checksum 18 = .ok (.lload_n 1, 1) := by decide +kernel
theorem dX5_checksum_19 : decode cX5_checksum 19 = .ok (.lmul, 1) := by decide +kernel
theorem dX5_checksum_20 : decode cX5_checksum 20 = .ok (.aload_n 0, 1) := by decide +kernel
theorem dX5_checksum_21 : decode cX5_checksum 21 = .ok (.getfield 10, 3) := by decide +kernel
theorem dX5_checksum_24 : decode cX5_checksum 24 = .ok (.getfield 141, 3) := by decide +kernel
theorem dX5_checksum_27 : decode cX5_checksum 27 = .ok (.i2l, 1) := by decide +kernel
theorem dX5_checksum_28 : decode cX5_checksum 28 = .ok (.ladd, 1) := by decide +kernel
theorem dX5_checksum_29 : decode cX5_checksum 29 = .ok (.lstore_n 1, 1) := by decide +kernel
theorem dX5_checksum_30 : decode cX5_checksum 30 = .ok (.ldc2_w 228, 3) := by decide +kernel
theorem dX5_checksum_33 : decode cX5_checksum 33 = .ok (.lload_n 1, 1) := by decide +kernel
theorem dX5_checksum_34 : decode cX5_checksum 34 = .ok (.lmul, 1) := by decide +kernel
theorem dX5_checksum_35 : decode cX5_checksum 35 = .ok (.aload_n 0, 1) := by decide +kernel
theorem dX5_checksum_36 : decode cX5_checksum 36 = .ok (.getfield 10, 3) := by decide +kernel
theorem dX5_checksum_39 : decode cX5_checksum 39 = .ok (.getfield 57, 3) := by decide +kernel
theorem dX5_checksum_42 : decode cX5_checksum 42 = .ok (.i2l, 1) := by decide +kernel
theorem dX5_checksum_43 : decode cX5_checksum 43 = .ok (.ladd, 1) := by decide +kernel
theorem dX5_checksum_44 : decode cX5_checksum 44 = .ok (.lstore_n 1, 1) := by decide +kernel
theorem dX5_checksum_45 : decode cX5_checksum 45 = .ok (.ldc2_w 228, 3) := by decide +kernel
theorem dX5_checksum_48 : decode cX5_checksum 48 = .ok (.lload_n 1, 1) := by decide +kernel
theorem dX5_checksum_49 : decode cX5_checksum 49 = .ok (.lmul, 1) := by decide +kernel
theorem dX5_checksum_50 : decode cX5_checksum 50 = .ok (.aload_n 0, 1) := by decide +kernel
theorem dX5_checksum_51 : decode cX5_checksum 51 = .ok (.getfield 10, 3) := by decide +kernel
theorem dX5_checksum_54 : decode cX5_checksum 54 = .ok (.getfield 83, 3) := by decide +kernel
theorem dX5_checksum_57 : decode cX5_checksum 57 = .ok (.i2l, 1) := by decide +kernel
theorem dX5_checksum_58 : decode cX5_checksum 58 = .ok (.ladd, 1) := by decide +kernel
theorem dX5_checksum_59 : decode cX5_checksum 59 = .ok (.lstore_n 1, 1) := by decide +kernel
theorem dX5_checksum_60 : decode cX5_checksum 60 = .ok (.iconst 0, 1) := by decide +kernel
theorem dX5_checksum_61 : decode cX5_checksum 61 = .ok (.istore_n 3, 1) := by decide +kernel
theorem dX5_checksum_62 : decode cX5_checksum 62 = .ok (.iload_n 3, 1) := by decide +kernel
theorem dX5_checksum_63 : decode cX5_checksum 63 = .ok (.aload_n 0, 1) := by decide +kernel
theorem dX5_checksum_64 : decode cX5_checksum 64 = .ok (.getfield 10, 3) := by decide +kernel
theorem dX5_checksum_67 : decode cX5_checksum 67 = .ok (.getfield 57, 3) := by decide +kernel
theorem dX5_checksum_70 : decode cX5_checksum 70 = .ok (.if_icmp .ge 42, 3) := by decide +kernel
theorem dX5_checksum_73 : decode cX5_checksum 73 = .ok (.ldc2_w 228, 3) := by decide +kernel
theorem dX5_checksum_76 : decode cX5_checksum 76 = .ok (.lload_n 1, 1) := by decide +kernel
theorem dX5_checksum_77 : decode cX5_checksum 77 = .ok (.lmul, 1) := by decide +kernel
theorem dX5_checksum_78 : decode cX5_checksum 78 = .ok (.aload_n 0, 1) := by decide +kernel
theorem dX5_checksum_79 : decode cX5_checksum 79 = .ok (.getfield 30, 3) := by decide +kernel
theorem dX5_checksum_82 : decode cX5_checksum 82 = .ok (.getfield 158, 3) := by decide +kernel
theorem dX5_checksum_85 : decode cX5_checksum 85 = .ok (.iload_n 3, 1) := by decide +kernel
theorem dX5_checksum_86 : decode cX5_checksum 86 = .ok (.iaload, 1) := by decide +kernel
theorem dX5_checksum_87 : decode cX5_checksum 87 = .ok (.i2l, 1) := by decide +kernel
theorem dX5_checksum_88 : decode cX5_checksum 88 = .ok (.ladd, 1) := by decide +kernel
theorem dX5_checksum_89 : decode cX5_checksum 89 = .ok (.lstore_n 1, 1) := by decide +kernel
theorem dX5_checksum_90 : decode cX5_checksum 90 = .ok (.ldc2_w 228, 3) := by decide +kernel
theorem dX5_checksum_93 : decode cX5_checksum 93 = .ok (.lload_n 1, 1) := by decide +kernel
theorem dX5_checksum_94 : decode cX5_checksum 94 = .ok (.lmul, 1) := by decide +kernel
theorem dX5_checksum_95 : decode cX5_checksum 95 = .ok (.aload_n 0, 1) := by decide +kernel
theorem dX5_checksum_96 : decode cX5_checksum 96 = .ok (.getfield 30, 3) := by decide +kernel
theorem dX5_checksum_99 : decode cX5_checksum 99 = .ok (.iload_n 3, 1) := by decide +kernel
theorem dX5_checksum_100 : decode cX5_checksum 100 = .ok (.invokevirtual 161, 3) := by decide +kernel
theorem dX5_checksum_103 : decode cX5_checksum 103 = .ok (.i2l, 1) := by decide +kernel
theorem dX5_checksum_104 : decode cX5_checksum 104 = .ok (.ladd, 1) := by decide +kernel
theorem dX5_checksum_105 : decode cX5_checksum 105 = .ok (.lstore_n 1, 1) := by decide +kernel
theorem dX5_checksum_106 : decode cX5_checksum 106 = .ok (.iinc 3 1, 3) := by decide +kernel
theorem dX5_checksum_109 : decode cX5_checksum 109 = .ok (.goto (-47), 3) := by decide +kernel
theorem dX5_checksum_112 : decode cX5_checksum 112 = .ok (.iconst 0, 1) := by decide +kernel
theorem dX5_checksum_113 : decode cX5_checksum 113 = .ok (.istore_n 3, 1) := by decide +kernel
theorem dX5_checksum_114 : decode cX5_checksum 114 = .ok (.iload_n 3, 1) := by decide +kernel
theorem dX5_checksum_115 : decode cX5_checksum 115 = .ok (.aload_n 0, 1) := by decide +kernel
theorem dX5_checksum_116 : decode cX5_checksum 116 = .ok (.getfield 10, 3) := by decide +kernel
theorem dX5_checksum_119 : decode cX5_checksum 119 = .ok (.getfield 83, 3) := by decide +kernel
theorem dX5_checksum_122 : decode cX5_checksum 122 = .ok (.if_icmp .ge 16, 3) := by decide +kernel
theorem dX5_checksum_125 : decode cX5_checksum 125 = .ok (.aload_n 0, 1) := by decide +kernel
theorem dX5_checksum_126 : decode cX5_checksum 126 = .ok (.lload_n 1, 1) := by decide +kernel
theorem dX5_checksum_127 : decode cX5_checksum 127 = .ok (.iload_n 3, 1) := by decide +kernel
theorem dX5_checksum_128 : decode cX5_checksum 128 = .ok (.invokevirtual 230, 3) := by decide +kernel
theorem dX5_checksum_131 : decode cX5_checksum 131 = .ok (.lstore_n 1, 1) := by decide +kernel
theorem dX5_checksum_132 : decode cX5_checksum 132 = .ok (.iinc 3 1, 3) := by decide +kernel
theorem dX5_checksum_135 : decode cX5_checksum 135 = .ok (.goto (-21), 3) := by decide +kernel
theorem dX5_checksum_138 : decode cX5_checksum 138 = .ok (.iconst 0, 1) := by decide +kernel
theorem dX5_checksum_139 : decode cX5_checksum 139 = .ok (.istore_n 3, 1) := by decide +kernel
theorem dX5_checksum_140 : decode cX5_checksum 140 = .ok (.iload_n 3, 1) := by decide +kernel
theorem dX5_checksum_141 : decode cX5_checksum 141 = .ok (.bipush 7, 2) := by decide +kernel
theorem dX5_checksum_143 : decode cX5_checksum 143 = .ok (.if_icmp .ge 26, 3) := by decide +kernel
theorem dX5_checksum_146 : decode cX5_checksum 146 = .ok (.ldc2_w 228, 3) := by decide +kernel
theorem dX5_checksum_149 : decode cX5_checksum 149 = .ok (.lload_n 1, 1) := by decide +kernel
theorem dX5_checksum_150 : decode cX5_checksum 150 = .ok (.lmul, 1) := by decide +kernel
theorem dX5_checksum_151 : decode cX5_checksum 151 = .ok (.aload_n 0, 1) := by decide +kernel
theorem dX5_checksum_152 : decode cX5_checksum 152 = .ok (.getfield 10, 3) := by decide +kernel
theorem dX5_checksum_155 : decode cX5_checksum 155 = .ok (.getfield 185, 3) := by decide +kernel
theorem dX5_checksum_158 : decode cX5_checksum 158 = .ok (.iload_n 3, 1) := by decide +kernel
theorem dX5_checksum_159 : decode cX5_checksum 159 = .ok (.iaload, 1) := by decide +kernel
theorem dX5_checksum_160 : decode cX5_checksum 160 = .ok (.i2l, 1) := by decide +kernel
theorem dX5_checksum_161 : decode cX5_checksum 161 = .ok (.ladd, 1) := by decide +kernel
theorem dX5_checksum_162 : decode cX5_checksum 162 = .ok (.lstore_n 1, 1) := by decide +kernel
theorem dX5_checksum_163 : decode cX5_checksum 163 = .ok (.iinc 3 1, 3) := by decide +kernel
theorem dX5_checksum_166 : decode cX5_checksum 166 = .ok (.goto (-26), 3) := by decide +kernel
theorem dX5_checksum_169 : decode cX5_checksum 169 = .ok (.ldc2_w 228, 3) := by decide +kernel
theorem dX5_checksum_172 : decode cX5_checksum 172 = .ok (.lload_n 1, 1) := by decide +kernel
theorem dX5_checksum_173 : decode cX5_checksum 173 = .ok (.lmul, 1) := by decide +kernel
theorem dX5_checksum_174 : decode cX5_checksum 174 = .ok (.aload_n 0, 1) := by decide +kernel
theorem dX5_checksum_175 : decode cX5_checksum 175 = .ok (.getfield 10, 3) := by decide +kernel
theorem dX5_checksum_178 : decode cX5_checksum 178 = .ok (.invokevirtual 144, 3) := by decide +kernel
theorem dX5_checksum_181 : decode cX5_checksum 181 = .ok (.i2l, 1) := by decide +kernel
theorem dX5_checksum_182 : decode cX5_checksum 182 = .ok (.ladd, 1) := by decide +kernel
theorem dX5_checksum_183 : decode cX5_checksum 183 = .ok (.lreturn, 1) := by decide +kernel
theorem dX5_withUser_0 : decode cX5_withUser 0 = .ok (.aload_n 0, 1) := by decide +kernel
theorem dX5_withUser_1 : decode cX5_withUser 1 = .ok (.getfield 10, 3) := by decide +kernel
theorem dX5_withUser_4 : decode cX5_withUser 4 = .ok (.getfield 92, 3) := by decide +kernel
theorem dX5_withUser_7 : decode cX5_withUser 7 = .ok (.iload_n 3, 1) := by decide +kernel
theorem dX5_withUser_8 : decode cX5_withUser 8 = .ok (.aaload, 1) := by decide +kernel
theorem dX5_withUser_9 : decode cX5_withUser 9 = .ok (.astore 4, 2) := by decide +kernel
theorem dX5_withUser_11 : decode cX5_withUser 11 = .ok (.lload_n 1, 1) := by decide +kernel
theorem dX5_withUser_12 : decode cX5_withUser 12 = .ok (.lstore 5, 2) := by decide +kernel
theorem dX5_withUser_14 : decode cX5_withUser 14 = .ok (.ldc2_w 228, 3) := by decide +kernel
theorem dX5_withUser_17 : decode cX5_withUser 17 = .ok (.lload 5, 2) := by decide +kernel
theorem dX5_withUser_19 : decode cX5_withUser 19 = .ok (.lmul, 1) := by decide +kernel
theorem dX5_withUser_20 : decode cX5_withUser 20 = .ok (.aload_n 0, 1) := by decide +kernel
theorem dX5_withUser_21 : decode cX5_withUser 21 = .ok (.getfield 30, 3) := by decide +kernel
theorem dX5_withUser_24 : decode cX5_withUser 24 = .ok (.getfield 234, 3) := by decide +kernel
theorem dX5_withUser_27 : decode cX5_withUser 27 = .ok (.iload_n 3, 1) := by decide +kernel
theorem dX5_withUser_28 : decode cX5_withUser 28 = .ok (.iaload, 1) := by decide +kernel
theorem dX5_withUser_29 : decode cX5_withUser 29 = .ok (.i2l, 1) := by decide +kernel
theorem dX5_withUser_30 : decode cX5_withUser 30 = .ok (.ladd, 1) := by decide +kernel
theorem dX5_withUser_31 : decode cX5_withUser 31 = .ok (.lstore 5, 2) := by decide +kernel
theorem dX5_withUser_33 : decode cX5_withUser 33 = .ok (.ldc2_w 228, 3) := by decide +kernel
theorem dX5_withUser_36 : decode cX5_withUser 36 = .ok (.lload 5, 2) := by decide +kernel
theorem dX5_withUser_38 : decode cX5_withUser 38 = .ok (.lmul, 1) := by decide +kernel
theorem dX5_withUser_39 : decode cX5_withUser 39 = .ok (.aload_n 0, 1) := by decide +kernel
theorem dX5_withUser_40 : decode cX5_withUser 40 = .ok (.getfield 30, 3) := by decide +kernel
theorem dX5_withUser_43 : decode cX5_withUser 43 = .ok (.getfield 155, 3) := by decide +kernel
theorem dX5_withUser_46 : decode cX5_withUser 46 = .ok (.iload_n 3, 1) := by decide +kernel
theorem dX5_withUser_47 : decode cX5_withUser 47 = .ok (.iaload, 1) := by decide +kernel
theorem dX5_withUser_48 : decode cX5_withUser 48 = .ok (.i2l, 1) := by decide +kernel
theorem dX5_withUser_49 : decode cX5_withUser 49 = .ok (.ladd, 1) := by decide +kernel
theorem dX5_withUser_50 : decode cX5_withUser 50 = .ok (.lstore 5, 2) := by decide +kernel
theorem dX5_withUser_52 : decode cX5_withUser 52 = .ok (.ldc2_w 228, 3) := by decide +kernel
theorem dX5_withUser_55 : decode cX5_withUser 55 = .ok (.lload 5, 2) := by decide +kernel
theorem dX5_withUser_57 : decode cX5_withUser 57 = .ok (.lmul, 1) := by decide +kernel
theorem dX5_withUser_58 : decode cX5_withUser 58 = .ok (.aload 4, 2) := by decide +kernel
theorem dX5_withUser_60 : decode cX5_withUser 60 = .ok (.getfield 113, 3) := by decide +kernel
theorem dX5_withUser_63 : decode cX5_withUser 63 = .ok (.i2l, 1) := by decide +kernel
theorem dX5_withUser_64 : decode cX5_withUser 64 = .ok (.ladd, 1) := by decide +kernel
theorem dX5_withUser_65 : decode cX5_withUser 65 = .ok (.lstore 5, 2) := by decide +kernel
theorem dX5_withUser_67 : decode cX5_withUser 67 = .ok (.ldc2_w 228, 3) := by decide +kernel
theorem dX5_withUser_70 : decode cX5_withUser 70 = .ok (.lload 5, 2) := by decide +kernel
theorem dX5_withUser_72 : decode cX5_withUser 72 = .ok (.lmul, 1) := by decide +kernel
theorem dX5_withUser_73 : decode cX5_withUser 73 = .ok (.aload 4, 2) := by decide +kernel
theorem dX5_withUser_75 : decode cX5_withUser 75 = .ok (.getfield 188, 3) := by decide +kernel
theorem dX5_withUser_78 : decode cX5_withUser 78 = .ok (.i2l, 1) := by decide +kernel
theorem dX5_withUser_79 : decode cX5_withUser 79 = .ok (.ladd, 1) := by decide +kernel
theorem dX5_withUser_80 : decode cX5_withUser 80 = .ok (.lstore 5, 2) := by decide +kernel
theorem dX5_withUser_82 : decode cX5_withUser 82 = .ok (.ldc2_w 228, 3) := by decide +kernel
theorem dX5_withUser_85 : decode cX5_withUser 85 = .ok (.lload 5, 2) := by decide +kernel
theorem dX5_withUser_87 : decode cX5_withUser 87 = .ok (.lmul, 1) := by decide +kernel
theorem dX5_withUser_88 : decode cX5_withUser 88 = .ok (.aload 4, 2) := by decide +kernel
theorem dX5_withUser_90 : decode cX5_withUser 90 = .ok (.getfield 203, 3) := by decide +kernel
theorem dX5_withUser_93 : decode cX5_withUser 93 = .ok (.ifCond .eq 7, 3) := by decide +kernel
theorem dX5_withUser_96 : decode cX5_withUser 96 = .ok (.iconst 1, 1) := by decide +kernel
theorem dX5_withUser_97 : decode cX5_withUser 97 = .ok (.goto 4, 3) := by decide +kernel
theorem dX5_withUser_100 : decode cX5_withUser 100 = .ok (.iconst 0, 1) := by decide +kernel
theorem dX5_withUser_101 : decode cX5_withUser 101 = .ok (.i2l, 1) := by decide +kernel
theorem dX5_withUser_102 : decode cX5_withUser 102 = .ok (.ladd, 1) := by decide +kernel
theorem dX5_withUser_103 : decode cX5_withUser 103 = .ok (.lreturn, 1) := by decide +kernel
set_option maxRecDepth 20000 in
theorem ggX5_unitsGotInTrial_X1_distribute : GoodIn wsX5_unitsGotInTrial wsX1_distribute := goodIn_r _ [9, 10, 11, 12, 13, 14, 15, 16, 17, 18, 19, 20, 21, 22, 23, 24, 25, 26, 27, 28, 29, 30, 31, 32, 33, 34, 35, 36, 37, 38, 39, 40, 41, 42, 43, 44, 45, 46, 47, 48, 49, 50, 51, 52, 53, 54, 55, 56, 57, 58, 59, 60, 61, 62, 63, 64, 65, 8, 66, 67, 68, 69, 70, 71, 72, 73, 74, 75, 76, 77, 78, 79, 80, 81, 82, 83, 84, 85, 86, 87, 88, 89, 90, 91, 92, 93, 94, 95, 96, 97, 98, 99, 100, 101, 102, 103, 104, 105, 106, 107, 108, 109, 110, 134, 135, 136, 137, 138, 139, 121, 122, 123, 124, 125, 126, 127, 128, 129, 130, 140, 141, 142, 143, 144, 145, 146, 147, 148, 149, 150, 151, 131, 132, 133] (by decide +kernel) (by decide +kernel)
set_option maxRecDepth 20000 in
theorem gX5_unitsGotInTrial_X1_distribute : GoodIn wsX5_unitsGotInTrial (wsV RX5 151 RX1 yX1_distribute wsX1_distribute) := goodIn_app (goodIn_of _ (by decide +kernel)) ggX5_unitsGotInTrial_X1_distribute
set_option maxRecDepth 20000 in
theorem ggX5_unitsGotInTrial_X1_unitsGot : GoodIn wsX5_unitsGotInTrial wsX1_unitsGot := goodIn_r _ [114, 11, 13, 121, 122, 123, 124, 125, 126, 127, 128, 129, 130, 134, 135, 136, 137, 138, 139] (by decide +kernel) (by decide +kernel)
set_option maxRecDepth 20000 in
theorem gX5_unitsGotInTrial_X1_unitsGot : GoodIn wsX5_unitsGotInTrial (wsV RX5 237 RX1 yX1_unitsGot wsX1_unitsGot) := goodIn_app (goodIn_of _ (by decide +kernel)) ggX5_unitsGotInTrial_X1_unitsGot
theorem dX5_unitsGotInTrial_0 : decode cX5_unitsGotInTrial 0 = .ok (.aload_n 0, 1) := by decide +kernel
theorem dX5_unitsGotInTrial_1 : decode cX5_unitsGotInTrial 1 = .ok (.getfield 16, 3) := by decide +kernel
theorem dX5_unitsGotInTrial_4 : decode cX5_unitsGotInTrial 4 = .ok (.getfield 61, 3) := by decide +kernel
theorem dX5_unitsGotInTrial_7 : decode cX5_unitsGotInTrial 7 = .ok (.iload_n 1, 1) := by decide +kernel
theorem dX5_unitsGotInTrial_8 : decode cX5_unitsGotInTrial 8 = .ok (.aaload, 1) := by decide +kernel
theorem dX5_unitsGotInTrial_9 : decode cX5_unitsGotInTrial 9 = .ok (.iload_n 2, 1) := by decide +kernel
theorem dX5_unitsGotInTrial_10 : decode cX5_unitsGotInTrial 10 = .ok (.putfield 65, 3) := by decide +kernel
theorem dX5_unitsGotInTrial_13 : decode cX5_unitsGotInTrial 13 = .ok (.aload_n 0, 1) := by decide +kernel
theorem dX5_unitsGotInTrial_14 : decode cX5_unitsGotInTrial 14 = .ok (.getfield 30, 3) := by decide +kernel
theorem dX5_unitsGotInTrial_17 : decode cX5_unitsGotInTrial 17 = .ok (.aload_n 0, 1) := by decide +kernel
theorem dX5_unitsGotInTrial_18 : decode cX5_unitsGotInTrial 18 = .ok (.getfield 16, 3) := by decide +kernel
theorem dX5_unitsGotInTrial_21 : decode cX5_unitsGotInTrial 21 = .ok (.invokevirtual 151, 3) := by decide +kernel
theorem dX5_unitsGotInTrial_24 : decode cX5_unitsGotInTrial 24 = .ok (.aload_n 0, 1) := by decide +kernel
theorem dX5_unitsGotInTrial_25 : decode cX5_unitsGotInTrial 25 = .ok (.getfield 30, 3) := by decide +kernel
theorem dX5_unitsGotInTrial_28 : decode cX5_unitsGotInTrial 28 = .ok (.aload_n 0, 1) := by decide +kernel
theorem dX5_unitsGotInTrial_29 : decode cX5_unitsGotInTrial 29 = .ok (.getfield 16, 3) := by decide +kernel
theorem dX5_unitsGotInTrial_32 : decode cX5_unitsGotInTrial 32 = .ok (.invokevirtual 237, 3) := by decide +kernel
theorem dX5_unitsGotInTrial_35 : decode cX5_unitsGotInTrial 35 = .ok (.ireturn, 1) := by decide +kernel
set_option maxRecDepth 20000 in
theorem ggX5_gainOf_X1_distribute : GoodIn wsX5_gainOf wsX1_distribute := goodIn_r _ [11, 12, 13, 14, 15, 16, 17, 18, 19, 20, 21, 22, 23, 24, 25, 26, 27, 28, 29, 30, 31, 32, 33, 34, 35, 36, 37, 38, 39, 40, 41, 42, 43, 44, 45, 46, 47, 48, 49, 50, 51, 52, 53, 54, 55, 56, 57, 58, 59, 60, 61, 62, 63, 64, 65, 66, 67, 10, 68, 69, 70, 71, 72, 73, 74, 75, 76, 77, 78, 79, 80, 81, 82, 83, 84, 85, 86, 87, 88, 89, 90, 91, 92, 93, 94, 95, 96, 97, 98, 99, 100, 101, 102, 103, 104, 105, 106, 107, 108, 109, 110, 111, 112, 152, 153, 154, 155, 156, 157, 158, 159, 160, 161, 162, 163, 164, 165, 166, 167, 168, 169, 170, 171, 172, 173, 174, 175, 176, 177, 178, 179, 180, 181, 182] (by decide +kernel) (by decide +kernel)
set_option maxRecDepth 20000 in
theorem gX5_gainOf_X1_distribute : GoodIn wsX5_gainOf (wsV RX5 151 RX1 yX1_distribute wsX1_distribute) := goodIn_app (goodIn_of _ (by decide +kernel)) ggX5_gainOf_X1_distribute
set_option maxRecDepth 20000 in
theorem ggX5_gainOf_X2_copyFrom : GoodIn wsX5_gainOf wsX2_copyFrom := goodIn_r _ [116, 117, 118, 119, 120, 121, 37, 38, 122, 23, 123, 40, 124, 28, 125, 126, 127, 87, 128, 129, 130, 89, 131, 132, 133, 54, 134, 135, 136, 137, 58, 56, 57, 63, 64, 138, 139, 140, 141, 142, 143, 144, 145, 158, 159, 160, 161, 162, 163, 164, 165, 166, 167, 180, 181, 182, 168, 169, 170, 171, 172, 173, 174, 175, 176, 177, 178, 179] (by decide +kernel) (by decide +kernel)
set_option maxRecDepth 20000 in
theorem gX5_gainOf_X2_copyFrom : GoodIn wsX5_gainOf (wsV RX5 172 RX2 yX2_copyFrom wsX2_copyFrom) := goodIn_app (goodIn_of _ (by decide +kernel)) ggX5_gainOf_X2_copyFrom
theorem dX5_gainOf_0 : decode cX5_gainOf 0 = .ok (.aload_n 0, 1) := by decide +kernel
theorem dX5_gainOf_1 : decode cX5_gainOf 1 = .ok (.getfield 30, 3) := by decide +kernel
theorem dX5_gainOf_4 : decode cX5_gainOf 4 = .ok (.aload_n 0, 1) := by decide +kernel
theorem dX5_gainOf_5 : decode cX5_gainOf 5 = .ok (.getfield 10, 3) := by decide +kernel
theorem dX5_gainOf_8 : decode cX5_gainOf 8 = .ok (.invokevirtual 151, 3) := by decide +kernel
theorem dX5_gainOf_11 : decode cX5_gainOf 11 = .ok (.aload_n 0, 1) := by decide +kernel
theorem dX5_gainOf_12 : decode cX5_gainOf 12 = .ok (.getfield 30, 3) := by decide +kernel
theorem dX5_gainOf_15 : decode cX5_gainOf 15 = .ok (.getfield 155, 3) := by decide +kernel
theorem dX5_gainOf_18 : decode cX5_gainOf 18 = .ok (.iload_n 1, 1) := by decide +kernel
theorem dX5_gainOf_19 : decode cX5_gainOf 19 = .ok (.iaload, 1) := by decide +kernel
theorem dX5_gainOf_20 : decode cX5_gainOf 20 = .ok (.istore_n 3, 1) := by decide +kernel
theorem dX5_gainOf_21 : decode cX5_gainOf 21 = .ok (.aload_n 0, 1) := by decide +kernel
theorem dX5_gainOf_22 : decode cX5_gainOf 22 = .ok (.getfield 16, 3) := by decide +kernel
theorem dX5_gainOf_25 : decode cX5_gainOf 25 = .ok (.aload_n 0, 1) := by decide +kernel
theorem dX5_gainOf_26 : decode cX5_gainOf 26 = .ok (.getfield 10, 3) := by decide +kernel
theorem dX5_gainOf_29 : decode cX5_gainOf 29 = .ok (.invokevirtual 172, 3) := by decide +kernel
theorem dX5_gainOf_32 : decode cX5_gainOf 32 = .ok (.aload_n 0, 1) := by decide +kernel
theorem dX5_gainOf_33 : decode cX5_gainOf 33 = .ok (.getfield 16, 3) := by decide +kernel
theorem dX5_gainOf_36 : decode cX5_gainOf 36 = .ok (.getfield 92, 3) := by decide +kernel
theorem dX5_gainOf_39 : decode cX5_gainOf 39 = .ok (.iload_n 2, 1) := by decide +kernel
theorem dX5_gainOf_40 : decode cX5_gainOf 40 = .ok (.aaload, 1) := by decide +kernel
theorem dX5_gainOf_41 : decode cX5_gainOf 41 = .ok (.iconst 1, 1) := by decide +kernel
theorem dX5_gainOf_42 : decode cX5_gainOf 42 = .ok (.putfield 203, 3) := by decide +kernel
theorem dX5_gainOf_45 : decode cX5_gainOf 45 = .ok (.aload_n 0, 1) := by decide +kernel
theorem dX5_gainOf_46 : decode cX5_gainOf 46 = .ok (.getfield 30, 3) := by decide +kernel
theorem dX5_gainOf_49 : decode cX5_gainOf 49 = .ok (.aload_n 0, 1) := by decide +kernel
theorem dX5_gainOf_50 : decode cX5_gainOf 50 = .ok (.getfield 16, 3) := by decide +kernel
theorem dX5_gainOf_53 : decode cX5_gainOf 53 = .ok (.invokevirtual 151, 3) := by decide +kernel
theorem dX5_gainOf_56 : decode cX5_gainOf 56 = .ok (.aload_n 0, 1) := by decide +kernel
theorem dX5_gainOf_57 : decode cX5_gainOf 57 = .ok (.getfield 30, 3) := by decide +kernel
theorem dX5_gainOf_60 : decode cX5_gainOf 60 = .ok (.getfield 155, 3) := by decide +kernel
theorem dX5_gainOf_63 : decode cX5_gainOf 63 = .ok (.iload_n 1, 1) := by decide +kernel
theorem dX5_gainOf_64 : decode cX5_gainOf 64 = .ok (.iaload, 1) := by decide +kernel
theorem dX5_gainOf_65 : decode cX5_gainOf 65 = .ok (.iload_n 3, 1) := by decide +kernel
theorem dX5_gainOf_66 : decode cX5_gainOf 66 = .ok (.isub, 1) := by decide +kernel
theorem dX5_gainOf_67 : decode cX5_gainOf 67 = .ok (.ireturn, 1) := by decide +kernel
set_option maxRecDepth 20000 in
theorem ggX5_judge_X1_distribute : GoodIn wsX5_judge wsX1_distribute := goodIn_r _ [9, 10, 11, 12, 13, 14, 15, 16, 17, 18, 19, 20, 21, 22, 23, 24, 25, 26, 27, 28, 29, 30, 31, 32, 33, 34, 35, 36, 37, 38, 39, 40, 41, 42, 43, 44, 45, 46, 47, 48, 49, 50, 51, 52, 53, 54, 55, 56, 57, 58, 59, 60, 61, 62, 63, 64, 65, 8, 66, 67, 68, 69, 70, 71, 72, 73, 74, 75, 76, 77, 78, 79, 80, 81, 82, 83, 84, 85, 86, 87, 88, 89, 90, 91, 92, 93, 94, 95, 96, 97, 98, 99, 100, 101, 102, 103, 104, 105, 106, 107, 108, 109, 110, 162, 163, 164, 165, 166, 167, 168, 169, 170, 171, 172, 173, 174, 175, 176, 177, 178, 179, 180, 181, 182, 183, 184, 185, 186, 187, 188, 189, 190, 191, 192] (by decide +kernel) (by decide +kernel)
set_option maxRecDepth 20000 in
theorem gX5_judge_X1_distribute : GoodIn wsX5_judge (wsV RX5 151 RX1 yX1_distribute wsX1_distribute) := goodIn_app (goodIn_of _ (by decide +kernel)) ggX5_judge_X1_distribute
set_option maxRecDepth 20000 in
theorem ggX5_judge_X1_isContent : GoodIn wsX5_judge wsX1_isContent := goodIn_r _ [114, 13, 12, 162, 163, 164, 165, 166, 167] (by decide +kernel) (by decide +kernel)
set_option maxRecDepth 20000 in
theorem gX5_judge_X1_isContent : GoodIn wsX5_judge (wsV RX5 165 RX1 yX1_isContent wsX1_isContent) := goodIn_app (goodIn_of _ (by decide +kernel)) ggX5_judge_X1_isContent
set_option maxRecDepth 20000 in
theorem ggX5_judge_X5_gainOf : GoodIn wsX5_judge wsX5_gainOf := goodIn_r _ [119, 1, 2, 3, 120, 121, 122, 5, 6, 7, 8, 9, 10, 11, 12, 13, 14, 15, 16, 17, 18, 19, 20, 21, 22, 23, 24, 25, 26, 27, 28, 29, 30, 31, 32, 33, 34, 35, 36, 37, 38, 39, 40, 41, 42, 43, 44, 45, 46, 47, 48, 49, 50, 51, 52, 53, 54, 55, 56, 57, 58, 59, 60, 61, 62, 63, 64, 65, 66, 67, 68, 69, 70, 71, 72, 73, 74, 75, 76, 77, 78, 79, 80, 81, 82, 83, 84, 85, 86, 87, 88, 89, 90, 91, 92, 93, 94, 95, 96, 97, 98, 99, 100, 101, 102, 103, 104, 105, 106, 107, 108, 109, 110, 123, 124, 125, 126, 127, 128, 129, 130, 131, 132, 133, 134, 135, 136, 137, 138, 139, 140, 141, 142, 143, 144, 145, 146, 147, 148, 149, 150, 151, 152, 153, 154, 155, 156, 157, 158, 159, 160, 161, 162, 163, 164, 165, 166, 167, 168, 169, 170, 171, 172, 173, 174, 175, 176, 177, 178, 179, 180, 181, 182, 183, 184, 185, 186, 187, 188, 189, 190, 191, 192] (by decide +kernel) (by decide +kernel)
set_option maxRecDepth 20000 in
theorem gX5_judge_X5_gainOf : GoodIn wsX5_judge (wsV RX5 197 RX5 yX5_gainOf wsX5_gainOf) := goodIn_app (goodIn_of _ (by decide +kernel)) ggX5_judge_X5_gainOf
end
section
theorem dX5_judge_0 : decode cX5_judge 0 = .ok (.aload_n 0, 1) := by decide +kernel
theorem dX5_judge_1 : decode cX5_judge 1 = .ok (.getfield 30, 3) := by decide +kernel
theorem dX5_judge_4 : decode cX5_judge 4 = .ok (.aload_n 0, 1) := by decide +kernel
theorem dX5_judge_5 : decode cX5_judge 5 = .ok (.getfield 10, 3) := by decide +kernel
theorem dX5_judge_8 : decode cX5_judge 8 = .ok (.invokevirtual 151, 3) := by decide +kernel
theorem dX5_judge_11 : decode cX5_judge 11 = .ok (.aload_n 0, 1) := by decide +kernel
theorem dX5_judge_12 : decode cX5_judge 12 = .ok (.getfield 30, 3) := by decide +kernel
theorem dX5_judge_15 : decode cX5_judge 15 = .ok (.getfield 155, 3) := by decide +kernel
theorem dX5_judge_18 : decode cX5_judge 18 = .ok (.iload_n 2, 1) := by decide +kernel
theorem dX5_judge_19 : decode cX5_judge 19 = .ok (.iaload, 1) := by decide +kernel
theorem dX5_judge_20 : decode cX5_judge 20 = .ok (.istore_n 3, 1) := by decide +kernel
theorem dX5_judge_21 : decode cX5_judge 21 = .ok (.aload_n 0, 1) := by decide +kernel
theorem dX5_judge_22 : decode cX5_judge 22 = .ok (.getfield 30, 3) := by decide +kernel
theorem dX5_judge_25 : decode cX5_judge 25 = .ok (.iload_n 1, 1) := by decide +kernel
theorem dX5_judge_26 : decode cX5_judge 26 = .ok (.invokevirtual 165, 3) := by decide +kernel
theorem dX5_judge_29 : decode cX5_judge 29 = .ok (.ifCond .ne 7, 3) := by decide +kernel
theorem dX5_judge_32 : decode cX5_judge 32 = .ok (.iload_n 3, 1) := by decide +kernel
theorem dX5_judge_33 : decode cX5_judge 33 = .ok (.ifCond .ne 5, 3) := by decide +kernel
theorem dX5_judge_36 : decode cX5_judge 36 = .ok (.iconst 0, 1) := by decide +kernel
theorem dX5_judge_37 : decode cX5_judge 37 = .ok (.ireturn, 1) := by decide +kernel
theorem dX5_judge_38 : decode cX5_judge 38 = .ok (.aload_n 0, 1) := by decide +kernel
theorem dX5_judge_39 : decode cX5_judge 39 = .ok (.iload_n 1, 1) := by decide +kernel
theorem dX5_judge_40 : decode cX5_judge 40 = .ok (.iload_n 2, 1) := by decide +kernel
theorem dX5_judge_41 : decode cX5_judge 41 = .ok (.invokevirtual 197, 3) := by decide +kernel
theorem dX5_judge_44 : decode cX5_judge 44 = .ok (.istore 4, 2) := by decide +kernel
theorem dX5_judge_46 : decode cX5_judge 46 = .ok (.iload 4, 2) := by decide +kernel
theorem dX5_judge_48 : decode cX5_judge 48 = .ok (.ifCond .eq 20, 3) := by decide +kernel
theorem dX5_judge_51 : decode cX5_judge 51 = .ok (.bipush 100, 2) := by decide +kernel
theorem dX5_judge_53 : decode cX5_judge 53 = .ok (.iload 4, 2) := by decide +kernel
theorem dX5_judge_55 : decode cX5_judge 55 = .ok (.imul, 1) := by decide +kernel
theorem dX5_judge_56 : decode cX5_judge 56 = .ok (.aload_n 0, 1) := by decide +kernel
theorem dX5_judge_57 : decode cX5_judge 57 = .ok (.getfield 10, 3) := by decide +kernel
theorem dX5_judge_60 : decode cX5_judge 60 = .ok (.getfield 135, 3) := by decide +kernel
theorem dX5_judge_63 : decode cX5_judge 63 = .ok (.iload_n 3, 1) := by decide +kernel
theorem dX5_judge_64 : decode cX5_judge 64 = .ok (.imul, 1) := by decide +kernel
theorem dX5_judge_65 : decode cX5_judge 65 = .ok (.if_icmp .ge 7, 3) := by decide +kernel
theorem dX5_judge_68 : decode cX5_judge 68 = .ok (.iconst 1, 1) := by decide +kernel
theorem dX5_judge_69 : decode cX5_judge 69 = .ok (.goto 4, 3) := by decide +kernel
theorem dX5_judge_72 : decode cX5_judge 72 = .ok (.iconst 2, 1) := by decide +kernel
theorem dX5_judge_73 : decode cX5_judge 73 = .ok (.ireturn, 1) := by decide +kernel
theorem dX5_isWithin_0 : decode cX5_isWithin 0 = .ok (.iload_n 0, 1) := by decide +kernel
theorem dX5_isWithin_1 : decode cX5_isWithin 1 = .ok (.iload_n 1, 1) := by decide +kernel
theorem dX5_isWithin_2 : decode cX5_isWithin 2 = .ok (.if_icmp .lt 12, 3) := by decide +kernel
theorem dX5_isWithin_5 : decode cX5_isWithin 5 = .ok (.iload_n 0, 1) := by decide +kernel
theorem dX5_isWithin_6 : decode cX5_isWithin 6 = .ok (.iload_n 2, 1) := by decide +kernel
theorem dX5_isWithin_7 : decode cX5_isWithin 7 = .ok (.if_icmp .gt 7, 3) := by decide +kernel
theorem dX5_isWithin_10 : decode cX5_isWithin 10 = .ok (.iconst 1, 1) := by decide +kernel
theorem dX5_isWithin_11 : decode cX5_isWithin 11 = .ok (.goto 4, 3) := by decide +kernel
theorem dX5_isWithin_14 : decode cX5_isWithin 14 = .ok (.iconst 0, 1) := by decide +kernel
theorem dX5_isWithin_15 : decode cX5_isWithin 15 = .ok (.ireturn, 1) := by decide +kernel
set_option maxRecDepth 20000 in
theorem ggX5_areGateAndLoss_X5_isWithin : GoodIn wsX5_areGateAndLoss wsX5_isWithin := goodIn_r _ [4] (by decide +kernel) (by decide +kernel)
set_option maxRecDepth 20000 in
theorem gX5_areGateAndLoss_X5_isWithin : GoodIn wsX5_areGateAndLoss (va_wsS RX5 73 yX5_isWithin wsX5_isWithin) := goodIn_app (goodIn_of _ (by decide +kernel)) ggX5_areGateAndLoss_X5_isWithin
theorem dX5_areGateAndLoss_0 : decode cX5_areGateAndLoss 0 = .ok (.iload_n 0, 1) := by decide +kernel
theorem dX5_areGateAndLoss_1 : decode cX5_areGateAndLoss 1 = .ok (.iconst 1, 1) := by decide +kernel
theorem dX5_areGateAndLoss_2 : decode cX5_areGateAndLoss 2 = .ok (.sipush 200, 3) := by decide +kernel
theorem dX5_areGateAndLoss_5 : decode cX5_areGateAndLoss 5 = .ok (.invokestatic 73, 3) := by decide +kernel
theorem dX5_areGateAndLoss_8 : decode cX5_areGateAndLoss 8 = .ok (.ifCond .eq 17, 3) := by decide +kernel
theorem dX5_areGateAndLoss_11 : decode cX5_areGateAndLoss 11 = .ok (.iload_n 1, 1) := by decide +kernel
theorem dX5_areGateAndLoss_12 : decode cX5_areGateAndLoss 12 = .ok (.iconst 0, 1) := by decide +kernel
theorem dX5_areGateAndLoss_13 : decode cX5_areGateAndLoss 13 = .ok (.bipush 50, 2) := by decide +kernel
theorem dX5_areGateAndLoss_15 : decode cX5_areGateAndLoss 15 = .ok (.invokestatic 73, 3) := by decide +kernel
theorem dX5_areGateAndLoss_18 : decode cX5_areGateAndLoss 18 = .ok (.ifCond .eq 7, 3) := by decide +kernel
theorem dX5_areGateAndLoss_21 : decode cX5_areGateAndLoss 21 = .ok (.iconst 1, 1) := by decide +kernel
theorem dX5_areGateAndLoss_22 : decode cX5_areGateAndLoss 22 = .ok (.goto 4, 3) := by decide +kernel
theorem dX5_areGateAndLoss_25 : decode cX5_areGateAndLoss 25 = .ok (.iconst 0, 1) := by decide +kernel
theorem dX5_areGateAndLoss_26 : decode cX5_areGateAndLoss 26 = .ok (.ireturn, 1) := by decide +kernel
set_option maxRecDepth 20000 in
theorem ggX5_areHours_X5_isWithin : GoodIn wsX5_areHours wsX5_isWithin := goodIn_r _ [4] (by decide +kernel) (by decide +kernel)
set_option maxRecDepth 20000 in
theorem gX5_areHours_X5_isWithin : GoodIn wsX5_areHours (va_wsS RX5 73 yX5_isWithin wsX5_isWithin) := goodIn_app (goodIn_of _ (by decide +kernel)) ggX5_areHours_X5_isWithin
theorem dX5_areHours_0 : decode cX5_areHours 0 = .ok (.iload_n 0, 1) := by decide +kernel
theorem dX5_areHours_1 : decode cX5_areHours 1 = .ok (.iconst 0, 1) := by decide +kernel
theorem dX5_areHours_2 : decode cX5_areHours 2 = .ok (.bipush 23, 2) := by decide +kernel
theorem dX5_areHours_4 : decode cX5_areHours 4 = .ok (.invokestatic 73, 3) := by decide +kernel
theorem dX5_areHours_7 : decode cX5_areHours 7 = .ok (.ifCond .eq 18, 3) := by decide +kernel
theorem dX5_areHours_10 : decode cX5_areHours 10 = .ok (.iload_n 1, 1) := by decide +kernel
theorem dX5_areHours_11 : decode cX5_areHours 11 = .ok (.iload_n 0, 1) := by decide +kernel
theorem dX5_areHours_12 : decode cX5_areHours 12 = .ok (.if_icmp .le 13, 3) := by decide +kernel
theorem dX5_areHours_15 : decode cX5_areHours 15 = .ok (.iload_n 1, 1) := by decide +kernel
theorem dX5_areHours_16 : decode cX5_areHours 16 = .ok (.bipush 24, 2) := by decide +kernel
theorem dX5_areHours_18 : decode cX5_areHours 18 = .ok (.if_icmp .gt 7, 3) := by decide +kernel
theorem dX5_areHours_21 : decode cX5_areHours 21 = .ok (.iconst 1, 1) := by decide +kernel
theorem dX5_areHours_22 : decode cX5_areHours 22 = .ok (.goto 4, 3) := by decide +kernel
theorem dX5_areHours_25 : decode cX5_areHours 25 = .ok (.iconst 0, 1) := by decide +kernel
theorem dX5_areHours_26 : decode cX5_areHours 26 = .ok (.ireturn, 1) := by decide +kernel
theorem dJ9_floorMod_7cf53_0 : decode cJ9_floorMod_7cf53 0 = .ok (.iload_n 0, 1) := by decide +kernel
theorem dJ9_floorMod_7cf53_1 : decode cJ9_floorMod_7cf53 1 = .ok (.iload_n 1, 1) := by decide +kernel
theorem dJ9_floorMod_7cf53_2 : decode cJ9_floorMod_7cf53 2 = .ok (.irem, 1) := by decide +kernel
theorem dJ9_floorMod_7cf53_3 : decode cJ9_floorMod_7cf53 3 = .ok (.istore_n 2, 1) := by decide +kernel
theorem dJ9_floorMod_7cf53_4 : decode cJ9_floorMod_7cf53 4 = .ok (.iload_n 0, 1) := by decide +kernel
theorem dJ9_floorMod_7cf53_5 : decode cJ9_floorMod_7cf53 5 = .ok (.iload_n 1, 1) := by decide +kernel
theorem dJ9_floorMod_7cf53_6 : decode cJ9_floorMod_7cf53 6 = .ok (.ixor, 1) := by decide +kernel
theorem dJ9_floorMod_7cf53_7 : decode cJ9_floorMod_7cf53 7 = .ok (.ifCond .ge 11, 3) := by decide +kernel
theorem dJ9_floorMod_7cf53_10 : decode cJ9_floorMod_7cf53 10 = .ok (.iload_n 2, 1) := by decide +kernel
theorem dJ9_floorMod_7cf53_11 : decode cJ9_floorMod_7cf53 11 = .ok (.ifCond .eq 7, 3) := by decide +kernel
theorem dJ9_floorMod_7cf53_14 : decode cJ9_floorMod_7cf53 14 = .ok (.iload_n 2, 1) := by decide +kernel
theorem dJ9_floorMod_7cf53_15 : decode cJ9_floorMod_7cf53 15 = .ok (.iload_n 1, 1) := by decide +kernel
theorem dJ9_floorMod_7cf53_16 : decode cJ9_floorMod_7cf53 16 = .ok (.iadd, 1) := by decide +kernel
theorem dJ9_floorMod_7cf53_17 : decode cJ9_floorMod_7cf53 17 = .ok (.ireturn, 1) := by decide +kernel
theorem dJ9_floorMod_7cf53_18 : decode cJ9_floorMod_7cf53 18 = .ok (.iload_n 2, 1) := by decide +kernel
theorem dJ9_floorMod_7cf53_19 : decode cJ9_floorMod_7cf53 19 = .ok (.ireturn, 1) := by decide +kernel
theorem dJ9_max_7cf53_0 : decode cJ9_max_7cf53 0 = .ok (.iload_n 0, 1) := by decide +kernel
theorem dJ9_max_7cf53_1 : decode cJ9_max_7cf53 1 = .ok (.iload_n 1, 1) := by decide +kernel
theorem dJ9_max_7cf53_2 : decode cJ9_max_7cf53 2 = .ok (.if_icmp .lt 7, 3) := by decide +kernel
theorem dJ9_max_7cf53_5 : decode cJ9_max_7cf53 5 = .ok (.iload_n 0, 1) := by decide +kernel
theorem dJ9_max_7cf53_6 : decode cJ9_max_7cf53 6 = .ok (.goto 4, 3) := by decide +kernel
theorem dJ9_max_7cf53_9 : decode cJ9_max_7cf53 9 = .ok (.iload_n 1, 1) := by decide +kernel
theorem dJ9_max_7cf53_10 : decode cJ9_max_7cf53 10 = .ok (.ireturn, 1) := by decide +kernel
theorem dJ9_min_7cf53_0 : decode cJ9_min_7cf53 0 = .ok (.iload_n 0, 1) := by decide +kernel
theorem dJ9_min_7cf53_1 : decode cJ9_min_7cf53 1 = .ok (.iload_n 1, 1) := by decide +kernel
theorem dJ9_min_7cf53_2 : decode cJ9_min_7cf53 2 = .ok (.if_icmp .gt 7, 3) := by decide +kernel
theorem dJ9_min_7cf53_5 : decode cJ9_min_7cf53 5 = .ok (.iload_n 0, 1) := by decide +kernel
theorem dJ9_min_7cf53_6 : decode cJ9_min_7cf53 6 = .ok (.goto 4, 3) := by decide +kernel
theorem dJ9_min_7cf53_9 : decode cJ9_min_7cf53 9 = .ok (.iload_n 1, 1) := by decide +kernel
theorem dJ9_min_7cf53_10 : decode cJ9_min_7cf53 10 = .ok (.ireturn, 1) := by decide +kernel
theorem dL_cell_0 : decode cL_cell 0 = .ok (.iload_n 1, 1) := by decide +kernel
theorem dL_cell_1 : decode cL_cell 1 = .ok (.aload_n 0, 1) := by decide +kernel
theorem dL_cell_2 : decode cL_cell 2 = .ok (.arraylength, 1) := by decide +kernel
theorem dL_cell_3 : decode cL_cell 3 = .ok (.if_icmp .ge 9, 3) := by decide +kernel
theorem dL_cell_6 : decode cL_cell 6 = .ok (.aload_n 0, 1) := by decide +kernel
theorem dL_cell_7 : decode cL_cell 7 = .ok (.iload_n 1, 1) := by decide +kernel
theorem dL_cell_8 : decode cL_cell 8 = .ok (.iaload, 1) := by decide +kernel
theorem dL_cell_9 : decode cL_cell 9 = .ok (.goto 11, 3) := by decide +kernel
theorem dL_cell_12 : decode cL_cell 12 = .ok (.ldc 7, 2) := by decide +kernel
theorem dL_cell_14 : decode cL_cell 14 = .ok (.iload_n 1, 1) := by decide +kernel
theorem dL_cell_15 : decode cL_cell 15 = .ok (.imul, 1) := by decide +kernel
theorem dL_cell_16 : decode cL_cell 16 = .ok (.sipush 251, 3) := by decide +kernel
theorem dL_cell_19 : decode cL_cell 19 = .ok (.iadd, 1) := by decide +kernel
theorem dL_cell_20 : decode cL_cell 20 = .ok (.ldc 8, 2) := by decide +kernel
theorem dL_cell_22 : decode cL_cell 22 = .ok (.iand, 1) := by decide +kernel
theorem dL_cell_23 : decode cL_cell 23 = .ok (.ireturn, 1) := by decide +kernel
set_option maxRecDepth 20000 in
theorem ggL_builds_L_cell : GoodIn wsL_builds wsL_cell := goodIn_r _ [4, 5, 6] (by decide +kernel) (by decide +kernel)
set_option maxRecDepth 20000 in
theorem gL_builds_L_cell : GoodIn wsL_builds (va_wsS RL 9 yL_cell wsL_cell) := goodIn_app (goodIn_of _ (by decide +kernel)) ggL_builds_L_cell
set_option maxRecDepth 20000 in
theorem ggL_builds_X5_setDitch : GoodIn wsL_builds wsX5_setDitch := goodIn_r _ [11, 12, 13, 14, 15, 16, 17, 18, 19, 20, 21, 22, 23, 10, 24, 25, 26, 27, 138, 139, 140, 141, 142, 143, 144, 145, 146, 147, 148, 149, 150, 151, 152, 153, 154, 155, 156] (by decide +kernel) (by decide +kernel)
set_option maxRecDepth 20000 in
theorem gL_builds_X5_setDitch : GoodIn wsL_builds (wsV RL 15 RX5 yX5_setDitch wsX5_setDitch) := goodIn_app (goodIn_of _ (by decide +kernel)) ggL_builds_X5_setDitch
set_option maxRecDepth 20000 in
theorem ggL_builds_X5_setSupply : GoodIn wsL_builds wsX5_setSupply := goodIn_r _ [31, 12, 32, 33, 34, 10, 35, 25, 26, 27, 36, 37, 38, 19, 39, 40, 41, 42, 43, 44, 138, 139, 140, 141, 142, 143, 144, 145, 146, 147, 148, 149, 150, 151, 152, 153] (by decide +kernel) (by decide +kernel)
set_option maxRecDepth 20000 in
theorem gL_builds_X5_setSupply : GoodIn wsL_builds (wsV RL 21 RX5 yX5_setSupply wsX5_setSupply) := goodIn_app (goodIn_of _ (by decide +kernel)) ggL_builds_X5_setSupply
set_option maxRecDepth 20000 in
theorem ggL_builds_X5_setRule : GoodIn wsL_builds wsX5_setRule := goodIn_r _ [48, 12, 49, 25, 26, 10, 27, 138, 139, 140, 141, 142, 143, 144, 145, 146, 147, 148, 149, 150, 151, 152, 153] (by decide +kernel) (by decide +kernel)
set_option maxRecDepth 20000 in
theorem gL_builds_X5_setRule : GoodIn wsL_builds (wsV RL 24 RX5 yX5_setRule wsX5_setRule) := goodIn_app (goodIn_of _ (by decide +kernel)) ggL_builds_X5_setRule
set_option maxRecDepth 20000 in
theorem ggL_builds_X5_addDitch : GoodIn wsL_builds wsX5_addDitch := goodIn_r _ [53, 12, 54, 16, 17, 18, 19, 20, 21, 22, 23, 10, 24, 25, 26, 27, 55, 56, 57, 58, 59, 60, 61, 62, 63, 64, 65, 66, 67, 68, 69, 70, 71, 72, 138, 139, 140, 141, 142, 143, 144, 145, 146, 147, 148, 149, 150, 151, 152, 153, 154, 155, 156] (by decide +kernel) (by decide +kernel)
set_option maxRecDepth 20000 in
theorem gL_builds_X5_addDitch : GoodIn wsL_builds (wsV RL 28 RX5 yX5_addDitch wsX5_addDitch) := goodIn_app (goodIn_of _ (by decide +kernel)) ggL_builds_X5_addDitch
set_option maxRecDepth 20000 in
theorem ggL_builds_X5_addUser : GoodIn wsL_builds wsX5_addUser := goodIn_r _ [76, 12, 77, 16, 17, 18, 19, 20, 21, 25, 26, 10, 27, 78, 79, 80, 81, 82, 83, 84, 85, 86, 87, 88, 89, 90, 91, 92, 93, 94, 95, 96, 97, 98, 99, 100, 101, 102, 103, 104, 105, 106, 107, 138, 139, 140, 141, 142, 143, 144, 145, 146, 147, 148, 149, 150, 151, 152, 153, 157, 158, 159, 160, 161, 162, 163, 164, 165, 166, 167, 168] (by decide +kernel) (by decide +kernel)
set_option maxRecDepth 20000 in
theorem gL_builds_X5_addUser : GoodIn wsL_builds (wsV RL 31 RX5 yX5_addUser wsX5_addUser) := goodIn_app (goodIn_of _ (by decide +kernel)) ggL_builds_X5_addUser
set_option maxRecDepth 20000 in
theorem ggL_builds_X5_setField : GoodIn wsL_builds wsX5_setField := goodIn_r _ [111, 12, 112, 113, 114, 115, 116, 117, 118, 19, 119, 82, 25, 26, 10, 27, 33, 34, 35, 138, 139, 140, 141, 142, 143, 144, 145, 146, 147, 148, 149, 150, 151, 152, 153, 157, 158, 159, 160, 161, 162, 163, 164, 165, 166, 167, 168] (by decide +kernel) (by decide +kernel)
set_option maxRecDepth 20000 in
theorem gL_builds_X5_setField : GoodIn wsL_builds (wsV RL 34 RX5 yX5_setField wsX5_setField) := goodIn_app (goodIn_of _ (by decide +kernel)) ggL_builds_X5_setField
set_option maxRecDepth 20000 in
theorem ggL_builds_X5_setPond : GoodIn wsL_builds wsX5_setPond := goodIn_r _ [123, 12, 112, 124, 125, 126, 127, 128, 42, 129, 116, 117, 118, 19, 119, 82, 25, 26, 10, 27, 138, 139, 140, 141, 142, 143, 144, 145, 146, 147, 148, 149, 150, 151, 152, 153, 157, 158, 159, 160, 161, 162, 163, 164, 165, 166, 167, 168] (by decide +kernel) (by decide +kernel)
set_option maxRecDepth 20000 in
theorem gL_builds_X5_setPond : GoodIn wsL_builds (wsV RL 38 RX5 yX5_setPond wsX5_setPond) := goodIn_app (goodIn_of _ (by decide +kernel)) ggL_builds_X5_setPond
set_option maxRecDepth 20000 in
theorem ggL_builds_X5_ditches : GoodIn wsL_builds wsX5_ditches := goodIn_r _ [133, 12, 54, 138, 139, 140, 141, 142, 143, 144, 145, 146, 147, 148, 149, 150, 151, 152, 153] (by decide +kernel) (by decide +kernel)
set_option maxRecDepth 20000 in
theorem gL_builds_X5_ditches : GoodIn wsL_builds (wsV RL 41 RX5 yX5_ditches wsX5_ditches) := goodIn_app (goodIn_of _ (by decide +kernel)) ggL_builds_X5_ditches
set_option maxRecDepth 20000 in
theorem ggL_builds_X5_users : GoodIn wsL_builds wsX5_users := goodIn_r _ [137, 12, 77, 138, 139, 140, 141, 142, 143, 144, 145, 146, 147, 148, 149, 150, 151, 152, 153] (by decide +kernel) (by decide +kernel)
set_option maxRecDepth 20000 in
theorem gL_builds_X5_users : GoodIn wsL_builds (wsV RL 45 RX5 yX5_users wsX5_users) := goodIn_app (goodIn_of _ (by decide +kernel)) ggL_builds_X5_users
theorem dL_builds_0 : decode cL_builds 0 = .ok (.aload_n 1, 1) := by decide +kernel
theorem dL_builds_1 : decode cL_builds 1 = .ok (.iload_n 2, 1) := by decide +kernel
theorem dL_builds_2 : decode cL_builds 2 = .ok (.invokestatic 9, 3) := by decide +kernel
theorem dL_builds_5 : decode cL_builds 5 = .ok (.istore 6, 2) := by decide +kernel
theorem dL_builds_7 : decode cL_builds 7 = .ok (.aload 5, 2) := by decide +kernel
theorem dL_builds_9 : decode cL_builds 9 = .ok (.iconst 0, 1) := by decide +kernel
theorem dL_builds_10 : decode cL_builds 10 = .ok (.iconst 1, 1) := by decide +kernel
theorem dL_builds_11 : decode cL_builds 11 = .ok (.iload 6, 2) := by decide +kernel
theorem dL_builds_13 : decode cL_builds 13 = .ok (.iconst 5, 1) := by decide +kernel
theorem dL_builds_14 : decode cL_builds 14 = .ok (.irem, 1) := by decide +kernel
theorem dL_builds_15 : decode cL_builds 15 = .ok (.iadd, 1) := by decide +kernel
theorem dL_builds_16 : decode cL_builds 16 = .ok (.iastore, 1) := by decide +kernel
theorem dL_builds_17 : decode cL_builds 17 = .ok (.aload 5, 2) := by decide +kernel
theorem dL_builds_19 : decode cL_builds 19 = .ok (.iconst 1, 1) := by decide +kernel
theorem dL_builds_20 : decode cL_builds 20 = .ok (.iconst 1, 1) := by decide +kernel
theorem dL_builds_21 : decode cL_builds 21 = .ok (.iload 6, 2) := by decide +kernel
theorem dL_builds_23 : decode cL_builds 23 = .ok (.iconst 3, 1) := by decide +kernel
theorem dL_builds_24 : decode cL_builds 24 = .ok (.ishr, 1) := by decide +kernel
theorem dL_builds_25 : decode cL_builds 25 = .ok (.bipush 6, 2) := by decide +kernel
theorem dL_builds_27 : decode cL_builds 27 = .ok (.irem, 1) := by decide +kernel
theorem dL_builds_28 : decode cL_builds 28 = .ok (.iadd, 1) := by decide +kernel
theorem dL_builds_29 : decode cL_builds 29 = .ok (.iastore, 1) := by decide +kernel
theorem dL_builds_30 : decode cL_builds 30 = .ok (.aload 5, 2) := by decide +kernel
theorem dL_builds_32 : decode cL_builds 32 = .ok (.iconst 2, 1) := by decide +kernel
theorem dL_builds_33 : decode cL_builds 33 = .ok (.iload 6, 2) := by decide +kernel
theorem dL_builds_35 : decode cL_builds 35 = .ok (.bipush 6, 2) := by decide +kernel
theorem dL_builds_37 : decode cL_builds 37 = .ok (.ishr, 1) := by decide +kernel
theorem dL_builds_38 : decode cL_builds 38 = .ok (.bipush 120, 2) := by decide +kernel
theorem dL_builds_40 : decode cL_builds 40 = .ok (.irem, 1) := by decide +kernel
theorem dL_builds_41 : decode cL_builds 41 = .ok (.iastore, 1) := by decide +kernel
theorem dL_builds_42 : decode cL_builds 42 = .ok (.aload 5, 2) := by decide +kernel
theorem dL_builds_44 : decode cL_builds 44 = .ok (.iconst 3, 1) := by decide +kernel
theorem dL_builds_45 : decode cL_builds 45 = .ok (.iload 6, 2) := by decide +kernel
theorem dL_builds_47 : decode cL_builds 47 = .ok (.bipush 13, 2) := by decide +kernel
theorem dL_builds_49 : decode cL_builds 49 = .ok (.ishr, 1) := by decide +kernel
theorem dL_builds_50 : decode cL_builds 50 = .ok (.iconst 3, 1) := by decide +kernel
theorem dL_builds_51 : decode cL_builds 51 = .ok (.irem, 1) := by decide +kernel
theorem dL_builds_52 : decode cL_builds 52 = .ok (.iastore, 1) := by decide +kernel
theorem dL_builds_53 : decode cL_builds 53 = .ok (.aload_n 3, 1) := by decide +kernel
theorem dL_builds_54 : decode cL_builds 54 = .ok (.iconst 0, 1) := by decide +kernel
theorem dL_builds_55 : decode cL_builds 55 = .ok (.iconst 0, 1) := by decide +kernel
theorem dL_builds_56 : decode cL_builds 56 = .ok (.iastore, 1) := by decide +kernel
theorem dL_builds_57 : decode cL_builds 57 = .ok (.aload_n 3, 1) := by decide +kernel
theorem dL_builds_58 : decode cL_builds 58 = .ok (.iconst 1, 1) := by decide +kernel
theorem dL_builds_59 : decode cL_builds 59 = .ok (.iconst 1, 1) := by decide +kernel
theorem dL_builds_60 : decode cL_builds 60 = .ok (.iload 6, 2) := by decide +kernel
theorem dL_builds_62 : decode cL_builds 62 = .ok (.bipush 15, 2) := by decide +kernel
theorem dL_builds_64 : decode cL_builds 64 = .ok (.ishr, 1) := by decide +kernel
theorem dL_builds_65 : decode cL_builds 65 = .ok (.sipush 150, 3) := by decide +kernel
theorem dL_builds_68 : decode cL_builds 68 = .ok (.irem, 1) := by decide +kernel
theorem dL_builds_69 : decode cL_builds 69 = .ok (.iadd, 1) := by decide +kernel
theorem dL_builds_70 : decode cL_builds 70 = .ok (.iastore, 1) := by decide +kernel
theorem dL_builds_71 : decode cL_builds 71 = .ok (.aload_n 3, 1) := by decide +kernel
theorem dL_builds_72 : decode cL_builds 72 = .ok (.iconst 2, 1) := by decide +kernel
theorem dL_builds_73 : decode cL_builds 73 = .ok (.iload 6, 2) := by decide +kernel
theorem dL_builds_75 : decode cL_builds 75 = .ok (.bipush 22, 2) := by decide +kernel
theorem dL_builds_77 : decode cL_builds 77 = .ok (.ishr, 1) := by decide +kernel
theorem dL_builds_78 : decode cL_builds 78 = .ok (.bipush 51, 2) := by decide +kernel
theorem dL_builds_80 : decode cL_builds 80 = .ok (.irem, 1) := by decide +kernel
theorem dL_builds_81 : decode cL_builds 81 = .ok (.iastore, 1) := by decide +kernel
theorem dL_builds_82 : decode cL_builds 82 = .ok (.aload_n 0, 1) := by decide +kernel
theorem dL_builds_83 : decode cL_builds 83 = .ok (.iconst 0, 1) := by decide +kernel
theorem dL_builds_84 : decode cL_builds 84 = .ok (.aload_n 3, 1) := by decide +kernel
theorem dL_builds_85 : decode cL_builds 85 = .ok (.iconst 1, 1) := by decide +kernel
theorem dL_builds_86 : decode cL_builds 86 = .ok (.iaload, 1) := by decide +kernel
theorem dL_builds_87 : decode cL_builds 87 = .ok (.aload_n 3, 1) := by decide +kernel
theorem dL_builds_88 : decode cL_builds 88 = .ok (.iconst 2, 1) := by decide +kernel
theorem dL_builds_89 : decode cL_builds 89 = .ok (.iaload, 1) := by decide +kernel
theorem dL_builds_90 : decode cL_builds 90 = .ok (.invokevirtual 15, 3) := by decide +kernel
theorem dL_builds_93 : decode cL_builds 93 = .ok (.bipush 100, 2) := by decide +kernel
theorem dL_builds_95 : decode cL_builds 95 = .ok (.if_icmp .ne 34, 3) := by decide +kernel
theorem dL_builds_98 : decode cL_builds 98 = .ok (.aload_n 0, 1) := by decide +kernel
theorem dL_builds_99 : decode cL_builds 99 = .ok (.iconst 0, 1) := by decide +kernel
theorem dL_builds_100 : decode cL_builds 100 = .ok (.bipush 24, 2) := by decide +kernel
theorem dL_builds_102 : decode cL_builds 102 = .ok (.aload 5, 2) := by decide +kernel
theorem dL_builds_104 : decode cL_builds 104 = .ok (.iconst 2, 1) := by decide +kernel
theorem dL_builds_105 : decode cL_builds 105 = .ok (.iaload, 1) := by decide +kernel
theorem dL_builds_106 : decode cL_builds 106 = .ok (.invokevirtual 21, 3) := by decide +kernel
theorem dL_builds_109 : decode cL_builds 109 = .ok (.bipush 100, 2) := by decide +kernel
theorem dL_builds_111 : decode cL_builds 111 = .ok (.if_icmp .ne 18, 3) := by decide +kernel
theorem dL_builds_114 : decode cL_builds 114 = .ok (.aload_n 0, 1) := by decide +kernel
theorem dL_builds_115 : decode cL_builds 115 = .ok (.aload 5, 2) := by decide +kernel
theorem dL_builds_117 : decode cL_builds 117 = .ok (.iconst 3, 1) := by decide +kernel
theorem dL_builds_118 : decode cL_builds 118 = .ok (.iaload, 1) := by decide +kernel
theorem dL_builds_119 : decode cL_builds 119 = .ok (.invokevirtual 24, 3) := by decide +kernel
theorem dL_builds_122 : decode cL_builds 122 = .ok (.ifCond .ne 7, 3) := by decide +kernel
theorem dL_builds_125 : decode cL_builds 125 = .ok (.iconst 1, 1) := by decide +kernel
theorem dL_builds_126 : decode cL_builds 126 = .ok (.goto 4, 3) := by decide +kernel
theorem dL_builds_129 : decode cL_builds 129 = .ok (.iconst 0, 1) := by decide +kernel
theorem dL_builds_130 : decode cL_builds 130 = .ok (.istore 7, 2) := by decide +kernel
theorem dL_builds_132 : decode cL_builds 132 = .ok (.iconst 1, 1) := by decide +kernel
theorem dL_builds_133 : decode cL_builds 133 = .ok (.istore 8, 2) := by decide +kernel
theorem dL_builds_135 : decode cL_builds 135 = .ok (.iload 8, 2) := by decide +kernel
theorem dL_builds_137 : decode cL_builds 137 = .ok (.aload 5, 2) := by decide +kernel
theorem dL_builds_139 : decode cL_builds 139 = .ok (.iconst 0, 1) := by decide +kernel
theorem dL_builds_140 : decode cL_builds 140 = .ok (.iaload, 1) := by decide +kernel
theorem dL_builds_141 : decode cL_builds 141 = .ok (.if_icmp .ge 120, 3) := by decide +kernel
theorem dL_builds_144 : decode cL_builds 144 = .ok (.iload 7, 2) := by decide +kernel
theorem dL_builds_146 : decode cL_builds 146 = .ok (.ifCond .eq 115, 3) := by decide +kernel
theorem dL_builds_149 : decode cL_builds 149 = .ok (.aload_n 1, 1) := by decide +kernel
theorem dL_builds_150 : decode cL_builds 150 = .ok (.iload_n 2, 1) := by decide +kernel
theorem dL_builds_151 : decode cL_builds 151 = .ok (.iload 8, 2) := by decide +kernel
theorem dL_builds_153 : decode cL_builds 153 = .ok (.iadd, 1) := by decide +kernel
theorem dL_builds_154 : decode cL_builds 154 = .ok (.invokestatic 9, 3) := by decide +kernel
theorem dL_builds_157 : decode cL_builds 157 = .ok (.istore 9, 2) := by decide +kernel
theorem dL_builds_159 : decode cL_builds 159 = .ok (.aload_n 3, 1) := by decide +kernel
theorem dL_builds_160 : decode cL_builds 160 = .ok (.iconst 3, 1) := by decide +kernel
theorem dL_builds_161 : decode cL_builds 161 = .ok (.iload 8, 2) := by decide +kernel
theorem dL_builds_163 : decode cL_builds 163 = .ok (.imul, 1) := by decide +kernel
theorem dL_builds_164 : decode cL_builds 164 = .ok (.iload 9, 2) := by decide +kernel
theorem dL_builds_166 : decode cL_builds 166 = .ok (.iload 8, 2) := by decide +kernel
theorem dL_builds_168 : decode cL_builds 168 = .ok (.irem, 1) := by decide +kernel
theorem dL_builds_169 : decode cL_builds 169 = .ok (.iastore, 1) := by decide +kernel
theorem dL_builds_170 : decode cL_builds 170 = .ok (.aload_n 3, 1) := by decide +kernel
theorem dL_builds_171 : decode cL_builds 171 = .ok (.iconst 3, 1) := by decide +kernel
theorem dL_builds_172 : decode cL_builds 172 = .ok (.iload 8, 2) := by decide +kernel
theorem dL_builds_174 : decode cL_builds 174 = .ok (.imul, 1) := by decide +kernel
theorem dL_builds_175 : decode cL_builds 175 = .ok (.iconst 1, 1) := by decide +kernel
theorem dL_builds_176 : decode cL_builds 176 = .ok (.iadd, 1) := by decide +kernel
theorem dL_builds_177 : decode cL_builds 177 = .ok (.iconst 1, 1) := by decide +kernel
theorem dL_builds_178 : decode cL_builds 178 = .ok (.iload 9, 2) := by decide +kernel
theorem dL_builds_180 : decode cL_builds 180 = .ok (.iconst 4, 1) := by decide +kernel
theorem dL_builds_181 : decode cL_builds 181 = .ok (.ishr, 1) := by decide +kernel
theorem dL_builds_182 : decode cL_builds 182 = .ok (.bipush 80, 2) := by decide +kernel
theorem dL_builds_184 : decode cL_builds 184 = .ok (.irem, 1) := by decide +kernel
theorem dL_builds_185 : decode cL_builds 185 = .ok (.iadd, 1) := by decide +kernel
theorem dL_builds_186 : decode cL_builds 186 = .ok (.iastore, 1) := by decide +kernel
theorem dL_builds_187 : decode cL_builds 187 = .ok (.aload_n 3, 1) := by decide +kernel
theorem dL_builds_188 : decode cL_builds 188 = .ok (.iconst 3, 1) := by decide +kernel
theorem dL_builds_189 : decode cL_builds 189 = .ok (.iload 8, 2) := by decide +kernel
theorem dL_builds_191 : decode cL_builds 191 = .ok (.imul, 1) := by decide +kernel
theorem dL_builds_192 : decode cL_builds 192 = .ok (.iconst 2, 1) := by decide +kernel
theorem dL_builds_193 : decode cL_builds 193 = .ok (.iadd, 1) := by decide +kernel
theorem dL_builds_194 : decode cL_builds 194 = .ok (.iload 9, 2) := by decide +kernel
theorem dL_builds_196 : decode cL_builds 196 = .ok (.bipush 12, 2) := by decide +kernel
theorem dL_builds_198 : decode cL_builds 198 = .ok (.ishr, 1) := by decide +kernel
theorem dL_builds_199 : decode cL_builds 199 = .ok (.iconst 3, 1) := by decide +kernel
theorem dL_builds_200 : decode cL_builds 200 = .ok (.irem, 1) := by decide +kernel
theorem dL_builds_201 : decode cL_builds 201 = .ok (.ifCond .ne 7, 3) := by decide +kernel
theorem dL_builds_204 : decode cL_builds 204 = .ok (.iconst 0, 1) := by decide +kernel
theorem dL_builds_205 : decode cL_builds 205 = .ok (.goto 11, 3) := by decide +kernel
theorem dL_builds_208 : decode cL_builds 208 = .ok (.iload 9, 2) := by decide +kernel
theorem dL_builds_210 : decode cL_builds 210 = .ok (.bipush 14, 2) := by decide +kernel
theorem dL_builds_212 : decode cL_builds 212 = .ok (.ishr, 1) := by decide +kernel
theorem dL_builds_213 : decode cL_builds 213 = .ok (.bipush 51, 2) := by decide +kernel
theorem dL_builds_215 : decode cL_builds 215 = .ok (.irem, 1) := by decide +kernel
theorem dL_builds_216 : decode cL_builds 216 = .ok (.iastore, 1) := by decide +kernel
theorem dL_builds_217 : decode cL_builds 217 = .ok (.aload_n 0, 1) := by decide +kernel
theorem dL_builds_218 : decode cL_builds 218 = .ok (.aload_n 3, 1) := by decide +kernel
theorem dL_builds_219 : decode cL_builds 219 = .ok (.iconst 3, 1) := by decide +kernel
theorem dL_builds_220 : decode cL_builds 220 = .ok (.iload 8, 2) := by decide +kernel
theorem dL_builds_222 : decode cL_builds 222 = .ok (.imul, 1) := by decide +kernel
theorem dL_builds_223 : decode cL_builds 223 = .ok (.iaload, 1) := by decide +kernel
theorem dL_builds_224 : decode cL_builds 224 = .ok (.aload_n 3, 1) := by decide +kernel
theorem dL_builds_225 : decode cL_builds 225 = .ok (.iconst 3, 1) := by decide +kernel
theorem dL_builds_226 : decode cL_builds 226 = .ok (.iload 8, 2) := by decide +kernel
theorem dL_builds_228 : decode cL_builds 228 = .ok (.imul, 1) := by decide +kernel
theorem dL_builds_229 : decode cL_builds 229 = .ok (.iconst 1, 1) := by decide +kernel
theorem dL_builds_230 : decode cL_builds 230 = .ok (.iadd, 1) := by decide +kernel
theorem dL_builds_231 : decode cL_builds 231 = .ok (.iaload, 1) := by decide +kernel
theorem dL_builds_232 : decode cL_builds 232 = .ok (.aload_n 3, 1) := by decide +kernel
theorem dL_builds_233 : decode cL_builds 233 = .ok (.iconst 3, 1) := by decide +kernel
theorem dL_builds_234 : decode cL_builds 234 = .ok (.iload 8, 2) := by decide +kernel
theorem dL_builds_236 : decode cL_builds 236 = .ok (.imul, 1) := by decide +kernel
theorem dL_builds_237 : decode cL_builds 237 = .ok (.iconst 2, 1) := by decide +kernel
theorem dL_builds_238 : decode cL_builds 238 = .ok (.iadd, 1) := by decide +kernel
theorem dL_builds_239 : decode cL_builds 239 = .ok (.iaload, 1) := by decide +kernel
theorem dL_builds_240 : decode cL_builds 240 = .ok (.invokevirtual 28, 3) := by decide +kernel
theorem dL_builds_243 : decode cL_builds 243 = .ok (.iload 8, 2) := by decide +kernel
theorem dL_builds_245 : decode cL_builds 245 = .ok (.if_icmp .ne 7, 3) := by decide +kernel
theorem dL_builds_248 : decode cL_builds 248 = .ok (.iconst 1, 1) := by decide +kernel
theorem dL_builds_249 : decode cL_builds 249 = .ok (.goto 4, 3) := by decide +kernel
theorem dL_builds_252 : decode cL_builds 252 = .ok (.iconst 0, 1) := by decide +kernel
theorem dL_builds_253 : decode cL_builds 253 = .ok (.istore 7, 2) := by decide +kernel
theorem dL_builds_255 : decode cL_builds 255 = .ok (.iinc 8 1, 3) := by decide +kernel
theorem dL_builds_258 : decode cL_builds 258 = .ok (.goto (-123), 3) := by decide +kernel
theorem dL_builds_261 : decode cL_builds 261 = .ok (.iconst 0, 1) := by decide +kernel
theorem dL_builds_262 : decode cL_builds 262 = .ok (.istore 8, 2) := by decide +kernel
theorem dL_builds_264 : decode cL_builds 264 = .ok (.iload 8, 2) := by decide +kernel
theorem dL_builds_266 : decode cL_builds 266 = .ok (.aload 5, 2) := by decide +kernel
theorem dL_builds_268 : decode cL_builds 268 = .ok (.iconst 1, 1) := by decide +kernel
theorem dL_builds_269 : decode cL_builds 269 = .ok (.iaload, 1) := by decide +kernel
theorem dL_builds_270 : decode cL_builds 270 = .ok (.if_icmp .ge 206, 3) := by decide +kernel
theorem dL_builds_273 : decode cL_builds 273 = .ok (.iload 7, 2) := by decide +kernel
theorem dL_builds_275 : decode cL_builds 275 = .ok (.ifCond .eq 201, 3) := by decide +kernel
theorem dL_builds_278 : decode cL_builds 278 = .ok (.aload_n 1, 1) := by decide +kernel
theorem dL_builds_279 : decode cL_builds 279 = .ok (.iload_n 2, 1) := by decide +kernel
theorem dL_builds_280 : decode cL_builds 280 = .ok (.iconst 5, 1) := by decide +kernel
theorem dL_builds_281 : decode cL_builds 281 = .ok (.iadd, 1) := by decide +kernel
theorem dL_builds_282 : decode cL_builds 282 = .ok (.iload 8, 2) := by decide +kernel
theorem dL_builds_284 : decode cL_builds 284 = .ok (.iadd, 1) := by decide +kernel
theorem dL_builds_285 : decode cL_builds 285 = .ok (.invokestatic 9, 3) := by decide +kernel
theorem dL_builds_288 : decode cL_builds 288 = .ok (.istore 9, 2) := by decide +kernel
theorem dL_builds_290 : decode cL_builds 290 = .ok (.aload 4, 2) := by decide +kernel
theorem dL_builds_292 : decode cL_builds 292 = .ok (.iconst 5, 1) := by decide +kernel
theorem dL_builds_293 : decode cL_builds 293 = .ok (.iload 8, 2) := by decide +kernel
theorem dL_builds_295 : decode cL_builds 295 = .ok (.imul, 1) := by decide +kernel
theorem dL_builds_296 : decode cL_builds 296 = .ok (.iload 9, 2) := by decide +kernel
theorem dL_builds_298 : decode cL_builds 298 = .ok (.aload 5, 2) := by decide +kernel
theorem dL_builds_300 : decode cL_builds 300 = .ok (.iconst 0, 1) := by decide +kernel
theorem dL_builds_301 : decode cL_builds 301 = .ok (.iaload, 1) := by decide +kernel
theorem dL_builds_302 : decode cL_builds 302 = .ok (.irem, 1) := by decide +kernel
theorem dL_builds_303 : decode cL_builds 303 = .ok (.iastore, 1) := by decide +kernel
theorem dL_builds_304 : decode cL_builds 304 = .ok (.aload 4, 2) := by decide +kernel
theorem dL_builds_306 : decode cL_builds 306 = .ok (.iconst 5, 1) := by decide +kernel
theorem dL_builds_307 : decode cL_builds 307 = .ok (.iload 8, 2) := by decide +kernel
theorem dL_builds_309 : decode cL_builds 309 = .ok (.imul, 1) := by decide +kernel
theorem dL_builds_310 : decode cL_builds 310 = .ok (.iconst 1, 1) := by decide +kernel
theorem dL_builds_311 : decode cL_builds 311 = .ok (.iadd, 1) := by decide +kernel
theorem dL_builds_312 : decode cL_builds 312 = .ok (.sipush 1880, 3) := by decide +kernel
theorem dL_builds_315 : decode cL_builds 315 = .ok (.iload 9, 2) := by decide +kernel
theorem dL_builds_317 : decode cL_builds 317 = .ok (.iconst 4, 1) := by decide +kernel
theorem dL_builds_318 : decode cL_builds 318 = .ok (.ishr, 1) := by decide +kernel
theorem dL_builds_319 : decode cL_builds 319 = .ok (.bipush 9, 2) := by decide +kernel
theorem dL_builds_321 : decode cL_builds 321 = .ok (.irem, 1) := by decide +kernel
theorem dL_builds_322 : decode cL_builds 322 = .ok (.iadd, 1) := by decide +kernel
theorem dL_builds_323 : decode cL_builds 323 = .ok (.iastore, 1) := by decide +kernel
theorem dL_builds_324 : decode cL_builds 324 = .ok (.aload 4, 2) := by decide +kernel
theorem dL_builds_326 : decode cL_builds 326 = .ok (.iconst 5, 1) := by decide +kernel
theorem dL_builds_327 : decode cL_builds 327 = .ok (.iload 8, 2) := by decide +kernel
theorem dL_builds_329 : decode cL_builds 329 = .ok (.imul, 1) := by decide +kernel
theorem dL_builds_330 : decode cL_builds 330 = .ok (.iconst 2, 1) := by decide +kernel
theorem dL_builds_331 : decode cL_builds 331 = .ok (.iadd, 1) := by decide +kernel
theorem dL_builds_332 : decode cL_builds 332 = .ok (.iload 9, 2) := by decide +kernel
theorem dL_builds_334 : decode cL_builds 334 = .ok (.bipush 8, 2) := by decide +kernel
theorem dL_builds_336 : decode cL_builds 336 = .ok (.ishr, 1) := by decide +kernel
theorem dL_builds_337 : decode cL_builds 337 = .ok (.bipush 40, 2) := by decide +kernel
theorem dL_builds_339 : decode cL_builds 339 = .ok (.irem, 1) := by decide +kernel
theorem dL_builds_340 : decode cL_builds 340 = .ok (.iastore, 1) := by decide +kernel
theorem dL_builds_341 : decode cL_builds 341 = .ok (.aload 4, 2) := by decide +kernel
theorem dL_builds_343 : decode cL_builds 343 = .ok (.iconst 5, 1) := by decide +kernel
theorem dL_builds_344 : decode cL_builds 344 = .ok (.iload 8, 2) := by decide +kernel
theorem dL_builds_346 : decode cL_builds 346 = .ok (.imul, 1) := by decide +kernel
theorem dL_builds_347 : decode cL_builds 347 = .ok (.iconst 3, 1) := by decide +kernel
theorem dL_builds_348 : decode cL_builds 348 = .ok (.iadd, 1) := by decide +kernel
theorem dL_builds_349 : decode cL_builds 349 = .ok (.iload 9, 2) := by decide +kernel
theorem dL_builds_351 : decode cL_builds 351 = .ok (.bipush 14, 2) := by decide +kernel
theorem dL_builds_353 : decode cL_builds 353 = .ok (.ishr, 1) := by decide +kernel
theorem dL_builds_354 : decode cL_builds 354 = .ok (.bipush 30, 2) := by decide +kernel
theorem dL_builds_356 : decode cL_builds 356 = .ok (.irem, 1) := by decide +kernel
theorem dL_builds_357 : decode cL_builds 357 = .ok (.iastore, 1) := by decide +kernel
theorem dL_builds_358 : decode cL_builds 358 = .ok (.aload 4, 2) := by decide +kernel
theorem dL_builds_360 : decode cL_builds 360 = .ok (.iconst 5, 1) := by decide +kernel
theorem dL_builds_361 : decode cL_builds 361 = .ok (.iload 8, 2) := by decide +kernel
theorem dL_builds_363 : decode cL_builds 363 = .ok (.imul, 1) := by decide +kernel
theorem dL_builds_364 : decode cL_builds 364 = .ok (.iconst 4, 1) := by decide +kernel
theorem dL_builds_365 : decode cL_builds 365 = .ok (.iadd, 1) := by decide +kernel
theorem dL_builds_366 : decode cL_builds 366 = .ok (.iload 9, 2) := by decide +kernel
theorem dL_builds_368 : decode cL_builds 368 = .ok (.bipush 19, 2) := by decide +kernel
theorem dL_builds_370 : decode cL_builds 370 = .ok (.ishr, 1) := by decide +kernel
theorem dL_builds_371 : decode cL_builds 371 = .ok (.iconst 3, 1) := by decide +kernel
theorem dL_builds_372 : decode cL_builds 372 = .ok (.irem, 1) := by decide +kernel
theorem dL_builds_373 : decode cL_builds 373 = .ok (.ifCond .ne 14, 3) := by decide +kernel
theorem dL_builds_376 : decode cL_builds 376 = .ok (.iload 9, 2) := by decide +kernel
theorem dL_builds_378 : decode cL_builds 378 = .ok (.bipush 21, 2) := by decide +kernel
theorem dL_builds_380 : decode cL_builds 380 = .ok (.ishr, 1) := by decide +kernel
theorem dL_builds_381 : decode cL_builds 381 = .ok (.bipush 60, 2) := by decide +kernel
theorem dL_builds_383 : decode cL_builds 383 = .ok (.irem, 1) := by decide +kernel
theorem dL_builds_384 : decode cL_builds 384 = .ok (.goto 4, 3) := by decide +kernel
theorem dL_builds_387 : decode cL_builds 387 = .ok (.iconst 0, 1) := by decide +kernel
theorem dL_builds_388 : decode cL_builds 388 = .ok (.iastore, 1) := by decide +kernel
theorem dL_builds_389 : decode cL_builds 389 = .ok (.aload_n 0, 1) := by decide +kernel
theorem dL_builds_390 : decode cL_builds 390 = .ok (.aload 4, 2) := by decide +kernel
theorem dL_builds_392 : decode cL_builds 392 = .ok (.iconst 5, 1) := by decide +kernel
theorem dL_builds_393 : decode cL_builds 393 = .ok (.iload 8, 2) := by decide +kernel
theorem dL_builds_395 : decode cL_builds 395 = .ok (.imul, 1) := by decide +kernel
theorem dL_builds_396 : decode cL_builds 396 = .ok (.iaload, 1) := by decide +kernel
theorem dL_builds_397 : decode cL_builds 397 = .ok (.aload 4, 2) := by decide +kernel
theorem dL_builds_399 : decode cL_builds 399 = .ok (.iconst 5, 1) := by decide +kernel
theorem dL_builds_400 : decode cL_builds 400 = .ok (.iload 8, 2) := by decide +kernel
theorem dL_builds_402 : decode cL_builds 402 = .ok (.imul, 1) := by decide +kernel
theorem dL_builds_403 : decode cL_builds 403 = .ok (.iconst 1, 1) := by decide +kernel
theorem dL_builds_404 : decode cL_builds 404 = .ok (.iadd, 1) := by decide +kernel
theorem dL_builds_405 : decode cL_builds 405 = .ok (.iaload, 1) := by decide +kernel
theorem dL_builds_406 : decode cL_builds 406 = .ok (.aload 4, 2) := by decide +kernel
theorem dL_builds_408 : decode cL_builds 408 = .ok (.iconst 5, 1) := by decide +kernel
theorem dL_builds_409 : decode cL_builds 409 = .ok (.iload 8, 2) := by decide +kernel
theorem dL_builds_411 : decode cL_builds 411 = .ok (.imul, 1) := by decide +kernel
theorem dL_builds_412 : decode cL_builds 412 = .ok (.iconst 2, 1) := by decide +kernel
theorem dL_builds_413 : decode cL_builds 413 = .ok (.iadd, 1) := by decide +kernel
theorem dL_builds_414 : decode cL_builds 414 = .ok (.iaload, 1) := by decide +kernel
theorem dL_builds_415 : decode cL_builds 415 = .ok (.invokevirtual 31, 3) := by decide +kernel
theorem dL_builds_418 : decode cL_builds 418 = .ok (.iload 8, 2) := by decide +kernel
theorem dL_builds_420 : decode cL_builds 420 = .ok (.if_icmp .ne 47, 3) := by decide +kernel
theorem dL_builds_423 : decode cL_builds 423 = .ok (.aload_n 0, 1) := by decide +kernel
theorem dL_builds_424 : decode cL_builds 424 = .ok (.iload 8, 2) := by decide +kernel
theorem dL_builds_426 : decode cL_builds 426 = .ok (.aload 4, 2) := by decide +kernel
theorem dL_builds_428 : decode cL_builds 428 = .ok (.iconst 5, 1) := by decide +kernel
theorem dL_builds_429 : decode cL_builds 429 = .ok (.iload 8, 2) := by decide +kernel
theorem dL_builds_431 : decode cL_builds 431 = .ok (.imul, 1) := by decide +kernel
theorem dL_builds_432 : decode cL_builds 432 = .ok (.iconst 3, 1) := by decide +kernel
theorem dL_builds_433 : decode cL_builds 433 = .ok (.iadd, 1) := by decide +kernel
theorem dL_builds_434 : decode cL_builds 434 = .ok (.iaload, 1) := by decide +kernel
theorem dL_builds_435 : decode cL_builds 435 = .ok (.iconst 0, 1) := by decide +kernel
theorem dL_builds_436 : decode cL_builds 436 = .ok (.bipush 24, 2) := by decide +kernel
theorem dL_builds_438 : decode cL_builds 438 = .ok (.invokevirtual 34, 3) := by decide +kernel
theorem dL_builds_441 : decode cL_builds 441 = .ok (.ifCond .ne 26, 3) := by decide +kernel
theorem dL_builds_444 : decode cL_builds 444 = .ok (.aload_n 0, 1) := by decide +kernel
theorem dL_builds_445 : decode cL_builds 445 = .ok (.iload 8, 2) := by decide +kernel
theorem dL_builds_447 : decode cL_builds 447 = .ok (.aload 4, 2) := by decide +kernel
theorem dL_builds_449 : decode cL_builds 449 = .ok (.iconst 5, 1) := by decide +kernel
theorem dL_builds_450 : decode cL_builds 450 = .ok (.iload 8, 2) := by decide +kernel
theorem dL_builds_452 : decode cL_builds 452 = .ok (.imul, 1) := by decide +kernel
theorem dL_builds_453 : decode cL_builds 453 = .ok (.iconst 4, 1) := by decide +kernel
theorem dL_builds_454 : decode cL_builds 454 = .ok (.iadd, 1) := by decide +kernel
theorem dL_builds_455 : decode cL_builds 455 = .ok (.iaload, 1) := by decide +kernel
theorem dL_builds_456 : decode cL_builds 456 = .ok (.iconst 0, 1) := by decide +kernel
theorem dL_builds_457 : decode cL_builds 457 = .ok (.invokevirtual 38, 3) := by decide +kernel
theorem dL_builds_460 : decode cL_builds 460 = .ok (.ifCond .ne 7, 3) := by decide +kernel
theorem dL_builds_463 : decode cL_builds 463 = .ok (.iconst 1, 1) := by decide +kernel
theorem dL_builds_464 : decode cL_builds 464 = .ok (.goto 4, 3) := by decide +kernel
theorem dL_builds_467 : decode cL_builds 467 = .ok (.iconst 0, 1) := by decide +kernel
theorem dL_builds_468 : decode cL_builds 468 = .ok (.istore 7, 2) := by decide +kernel
theorem dL_builds_470 : decode cL_builds 470 = .ok (.iinc 8 1, 3) := by decide +kernel
theorem dL_builds_473 : decode cL_builds 473 = .ok (.goto (-209), 3) := by decide +kernel
theorem dL_builds_476 : decode cL_builds 476 = .ok (.iload 7, 2) := by decide +kernel
theorem dL_builds_478 : decode cL_builds 478 = .ok (.ifCond .eq 29, 3) := by decide +kernel
theorem dL_builds_481 : decode cL_builds 481 = .ok (.aload_n 0, 1) := by decide +kernel
theorem dL_builds_482 : decode cL_builds 482 = .ok (.invokevirtual 41, 3) := by decide +kernel
theorem dL_builds_485 : decode cL_builds 485 = .ok (.aload 5, 2) := by decide +kernel
theorem dL_builds_487 : decode cL_builds 487 = .ok (.iconst 0, 1) := by decide +kernel
theorem dL_builds_488 : decode cL_builds 488 = .ok (.iaload, 1) := by decide +kernel
theorem dL_builds_489 : decode cL_builds 489 = .ok (.if_icmp .ne 18, 3) := by decide +kernel
theorem dL_builds_492 : decode cL_builds 492 = .ok (.aload_n 0, 1) := by decide +kernel
theorem dL_builds_493 : decode cL_builds 493 = .ok (.invokevirtual 45, 3) := by decide +kernel
theorem dL_builds_496 : decode cL_builds 496 = .ok (.aload 5, 2) := by decide +kernel
theorem dL_builds_498 : decode cL_builds 498 = .ok (.iconst 1, 1) := by decide +kernel
theorem dL_builds_499 : decode cL_builds 499 = .ok (.iaload, 1) := by decide +kernel
theorem dL_builds_500 : decode cL_builds 500 = .ok (.if_icmp .ne 7, 3) := by decide +kernel
theorem dL_builds_503 : decode cL_builds 503 = .ok (.iconst 1, 1) := by decide +kernel
theorem dL_builds_504 : decode cL_builds 504 = .ok (.goto 4, 3) := by decide +kernel
theorem dL_builds_507 : decode cL_builds 507 = .ok (.iconst 0, 1) := by decide +kernel
theorem dL_builds_508 : decode cL_builds 508 = .ok (.ireturn, 1) := by decide +kernel
set_option maxRecDepth 20000 in
theorem ggL_sound_X5_inflow : GoodIn wsL_sound wsX5_inflow := goodIn_r _ [5, 6, 7, 8, 9, 10, 11, 12, 13, 14, 15, 16, 17, 18, 19, 20, 21, 22, 23, 24, 25, 26, 27, 28, 29, 30, 31, 32, 33, 34, 35, 36, 37, 38, 39, 40, 41, 42, 43, 44, 45, 46, 47, 48, 49, 50, 51, 52, 53, 54, 55, 56, 57, 58, 59, 60, 61, 62, 63, 64, 65, 66, 67, 68, 69, 70, 71, 72, 73, 74, 75, 76, 77, 78, 79, 80, 81, 82, 83, 84, 85, 86, 87, 88, 89, 90, 91, 92, 93, 94, 95, 96, 97, 98, 99, 100, 101, 102, 103, 104, 105, 106, 107, 108, 109, 110, 111, 112, 113, 114, 115, 116, 117, 118, 119, 208, 209, 210, 211, 212, 213, 214, 215, 216, 217, 218, 219, 220, 221, 222, 223, 224, 225, 226, 227, 228, 229, 230, 231, 232, 233, 234, 235, 236, 237, 238, 239, 240, 241, 242, 243, 244] (by decide +kernel) (by decide +kernel)
set_option maxRecDepth 20000 in
theorem gL_sound_X5_inflow : GoodIn wsL_sound (wsV RL 48 RX5 yX5_inflow wsX5_inflow) := goodIn_app (goodIn_of _ (by decide +kernel)) ggL_sound_X5_inflow
set_option maxRecDepth 20000 in
theorem ggL_sound_X5_loses : GoodIn wsL_sound wsX5_loses := goodIn_r _ [123, 6, 7, 9, 10, 11, 12, 13, 14, 15, 16, 17, 18, 19, 20, 21, 22, 23, 24, 25, 26, 27, 28, 29, 30, 31, 32, 33, 34, 35, 36, 37, 38, 39, 40, 41, 42, 43, 44, 45, 46, 47, 48, 49, 50, 51, 52, 53, 54, 55, 56, 57, 58, 59, 60, 61, 62, 63, 64, 65, 66, 67, 68, 69, 70, 71, 72, 73, 74, 75, 76, 77, 78, 79, 80, 81, 82, 83, 84, 85, 86, 87, 88, 89, 90, 91, 92, 93, 94, 95, 96, 97, 98, 99, 100, 101, 102, 103, 104, 105, 106, 107, 108, 109, 110, 111, 112, 113, 114, 115, 116, 117, 118, 119, 124, 125, 126, 127, 208, 209, 210, 211, 212, 213, 220, 221, 222, 223, 224, 225, 226, 227, 228, 229, 214, 215, 216, 217, 218, 219, 230, 231, 232, 233, 234, 235, 236, 237, 238, 239, 240, 241, 242, 243, 244] (by decide +kernel) (by decide +kernel)
set_option maxRecDepth 20000 in
theorem gL_sound_X5_loses : GoodIn wsL_sound (wsV RL 51 RX5 yX5_loses wsX5_loses) := goodIn_app (goodIn_of _ (by decide +kernel)) ggL_sound_X5_loses
set_option maxRecDepth 20000 in
theorem ggL_sound_X5_gets : GoodIn wsL_sound wsX5_gets := goodIn_r _ [131, 6, 7, 132, 133, 103, 104, 12, 105, 44, 15, 16, 17, 18, 19, 20, 21, 22, 23, 24, 25, 26, 27, 28, 29, 30, 31, 32, 33, 34, 35, 36, 37, 38, 39, 40, 41, 42, 43, 45, 46, 47, 48, 49, 50, 51, 52, 53, 54, 55, 56, 57, 58, 59, 60, 61, 62, 63, 64, 65, 66, 67, 68, 69, 70, 71, 72, 73, 74, 75, 76, 77, 78, 79, 80, 81, 82, 83, 84, 85, 86, 87, 88, 89, 90, 91, 92, 93, 94, 95, 96, 97, 98, 99, 100, 101, 102, 106, 107, 108, 109, 110, 111, 112, 113, 114, 115, 116, 117, 118, 119, 208, 209, 210, 211, 212, 213, 214, 215, 216, 217, 218, 219, 220, 221, 222, 223, 224, 225, 226, 227, 228, 229, 230, 231, 232, 233, 234, 235, 236, 237, 238, 239, 240, 241, 242, 243, 244] (by decide +kernel) (by decide +kernel)
set_option maxRecDepth 20000 in
theorem gL_sound_X5_gets : GoodIn wsL_sound (wsV RL 54 RX5 yX5_gets wsX5_gets) := goodIn_app (goodIn_of _ (by decide +kernel)) ggL_sound_X5_gets
set_option maxRecDepth 20000 in
theorem ggL_sound_X5_limit : GoodIn wsL_sound wsX5_limit := goodIn_r _ [137, 6, 7, 133, 103, 104, 12, 105, 44, 15, 16, 17, 18, 19, 20, 21, 22, 23, 24, 25, 26, 27, 28, 29, 30, 31, 32, 33, 34, 35, 36, 37, 38, 39, 40, 41, 42, 43, 45, 46, 47, 48, 49, 50, 51, 52, 53, 54, 55, 56, 57, 58, 59, 60, 61, 62, 63, 64, 65, 66, 67, 68, 69, 70, 71, 72, 73, 74, 75, 76, 77, 78, 79, 80, 81, 82, 83, 84, 85, 86, 87, 88, 89, 90, 91, 92, 93, 94, 95, 96, 97, 98, 99, 100, 101, 102, 106, 107, 108, 109, 110, 111, 112, 113, 114, 115, 116, 117, 118, 119, 138, 139, 140, 141, 142, 143, 144, 145, 208, 209, 210, 211, 212, 213, 220, 221, 222, 223, 224, 225, 226, 227, 228, 229, 214, 215, 216, 217, 218, 219, 230, 231, 232, 233, 234, 235, 236, 237, 238, 239, 240, 241, 242, 243, 244] (by decide +kernel) (by decide +kernel)
set_option maxRecDepth 20000 in
theorem gL_sound_X5_limit : GoodIn wsL_sound (wsV RL 57 RX5 yX5_limit wsX5_limit) := goodIn_app (goodIn_of _ (by decide +kernel)) ggL_sound_X5_limit
set_option maxRecDepth 20000 in
theorem ggL_sound_X5_asks : GoodIn wsL_sound wsX5_asks := goodIn_r _ [149, 6, 133, 103, 104, 12, 105, 44, 150, 41, 42, 43, 45, 46, 47, 35, 36, 37, 38, 39, 151, 49, 50, 51, 52, 53, 54, 55, 56, 57, 31, 32, 33, 34, 58, 59, 60, 61, 62, 63, 64, 65, 66, 67, 68, 69, 70, 71, 208, 209, 210, 211, 212, 213, 220, 221, 222, 223, 224, 225, 226, 227, 228, 229, 230, 231, 232, 233, 234, 235, 236, 237, 238, 239, 240, 241] (by decide +kernel) (by decide +kernel)
set_option maxRecDepth 20000 in
theorem gL_sound_X5_asks : GoodIn wsL_sound (wsV RL 60 RX5 yX5_asks wsX5_asks) := goodIn_app (goodIn_of _ (by decide +kernel)) ggL_sound_X5_asks
set_option maxRecDepth 20000 in
theorem ggL_sound_X5_userByAge : GoodIn wsL_sound wsX5_userByAge := goodIn_r _ [155, 6, 156, 133, 103, 104, 12, 105, 44, 208, 209, 210, 211, 212, 213, 220, 221, 222, 223, 224, 225, 226, 227, 228, 229] (by decide +kernel) (by decide +kernel)
set_option maxRecDepth 20000 in
theorem gL_sound_X5_userByAge : GoodIn wsL_sound (wsV RL 63 RX5 yX5_userByAge wsX5_userByAge) := goodIn_app (goodIn_of _ (by decide +kernel)) ggL_sound_X5_userByAge
set_option maxRecDepth 20000 in
theorem ggL_sound_L_older : GoodIn wsL_sound wsL_older := goodIn_r _ [160] (by decide +kernel) (by decide +kernel)
set_option maxRecDepth 20000 in
theorem gL_sound_L_older : GoodIn wsL_sound (va_wsS RL 66 yL_older wsL_older) := goodIn_app (goodIn_of _ (by decide +kernel)) ggL_sound_L_older
set_option maxRecDepth 20000 in
theorem ggL_sound_X5_usefulGate : GoodIn wsL_sound wsX5_usefulGate := goodIn_r _ [164, 6, 165, 9, 10, 11, 12, 13, 14, 166, 167, 168, 169, 170, 171, 172, 173, 44, 45, 174, 30, 175, 47, 176, 35, 177, 178, 179, 94, 180, 181, 182, 96, 183, 184, 185, 61, 186, 187, 188, 189, 65, 63, 64, 70, 71, 190, 191, 192, 193, 194, 195, 196, 197, 198, 199, 200, 4, 201, 202, 203, 7, 15, 16, 17, 18, 19, 20, 21, 22, 23, 24, 25, 26, 27, 28, 29, 31, 32, 33, 34, 36, 37, 38, 39, 40, 41, 42, 43, 46, 48, 49, 50, 51, 52, 53, 54, 55, 56, 57, 58, 59, 60, 62, 66, 67, 68, 69, 72, 73, 74, 75, 76, 77, 78, 79, 80, 81, 82, 83, 84, 85, 86, 87, 88, 89, 90, 91, 92, 93, 95, 97, 98, 99, 100, 101, 102, 103, 104, 105, 106, 107, 108, 109, 110, 111, 112, 113, 114, 115, 116, 117, 118, 119, 204, 205, 206, 207, 208, 209, 210, 211, 212, 213, 220, 221, 222, 223, 224, 225, 226, 227, 228, 229, 242, 243, 244, 230, 231, 232, 233, 234, 235, 236, 237, 238, 239, 240, 241, 214, 215, 216, 217, 218, 219] (by decide +kernel) (by decide +kernel)
set_option maxRecDepth 20000 in
theorem gL_sound_X5_usefulGate : GoodIn wsL_sound (wsV RL 70 RX5 yX5_usefulGate wsX5_usefulGate) := goodIn_app (goodIn_of _ (by decide +kernel)) ggL_sound_X5_usefulGate
theorem dL_sound_0 : decode cL_sound 0 = .ok (.iconst 0, 1) := by decide +kernel
theorem dL_sound_1 : decode cL_sound 1 = .ok (.istore 4, 2) := by decide +kernel
theorem dL_sound_3 : decode cL_sound 3 = .ok (.iconst 0, 1) := by decide +kernel
theorem dL_sound_4 : decode cL_sound 4 = .ok (.istore 5, 2) := by decide +kernel
theorem dL_sound_6 : decode cL_sound 6 = .ok (.aload_n 0, 1) := by decide +kernel
theorem dL_sound_7 : decode cL_sound 7 = .ok (.iconst 0, 1) := by decide +kernel
theorem dL_sound_8 : decode cL_sound 8 = .ok (.invokevirtual 48, 3) := by decide +kernel
theorem dL_sound_11 : decode cL_sound 11 = .ok (.aload_n 3, 1) := by decide +kernel
theorem dL_sound_12 : decode cL_sound 12 = .ok (.iconst 2, 1) := by decide +kernel
theorem dL_sound_13 : decode cL_sound 13 = .ok (.iaload, 1) := by decide +kernel
theorem dL_sound_14 : decode cL_sound 14 = .ok (.if_icmp .gt 7, 3) := by decide +kernel
theorem dL_sound_17 : decode cL_sound 17 = .ok (.iconst 1, 1) := by decide +kernel
theorem dL_sound_18 : decode cL_sound 18 = .ok (.goto 4, 3) := by decide +kernel
theorem dL_sound_21 : decode cL_sound 21 = .ok (.iconst 0, 1) := by decide +kernel
theorem dL_sound_22 : decode cL_sound 22 = .ok (.istore 6, 2) := by decide +kernel
theorem dL_sound_24 : decode cL_sound 24 = .ok (.iconst 0, 1) := by decide +kernel
theorem dL_sound_25 : decode cL_sound 25 = .ok (.istore 7, 2) := by decide +kernel
theorem dL_sound_27 : decode cL_sound 27 = .ok (.iload 7, 2) := by decide +kernel
theorem dL_sound_29 : decode cL_sound 29 = .ok (.aload_n 3, 1) := by decide +kernel
theorem dL_sound_30 : decode cL_sound 30 = .ok (.iconst 0, 1) := by decide +kernel
theorem dL_sound_31 : decode cL_sound 31 = .ok (.iaload, 1) := by decide +kernel
theorem dL_sound_32 : decode cL_sound 32 = .ok (.if_icmp .ge 84, 3) := by decide +kernel
theorem dL_sound_35 : decode cL_sound 35 = .ok (.iload 6, 2) := by decide +kernel
theorem dL_sound_37 : decode cL_sound 37 = .ok (.ifCond .eq 79, 3) := by decide +kernel
theorem dL_sound_40 : decode cL_sound 40 = .ok (.iload 4, 2) := by decide +kernel
theorem dL_sound_42 : decode cL_sound 42 = .ok (.aload_n 0, 1) := by decide +kernel
theorem dL_sound_43 : decode cL_sound 43 = .ok (.iload 7, 2) := by decide +kernel
theorem dL_sound_45 : decode cL_sound 45 = .ok (.invokevirtual 51, 3) := by decide +kernel
theorem dL_sound_48 : decode cL_sound 48 = .ok (.iadd, 1) := by decide +kernel
theorem dL_sound_49 : decode cL_sound 49 = .ok (.istore 4, 2) := by decide +kernel
theorem dL_sound_51 : decode cL_sound 51 = .ok (.aload_n 0, 1) := by decide +kernel
theorem dL_sound_52 : decode cL_sound 52 = .ok (.iload 7, 2) := by decide +kernel
theorem dL_sound_54 : decode cL_sound 54 = .ok (.invokevirtual 48, 3) := by decide +kernel
theorem dL_sound_57 : decode cL_sound 57 = .ok (.istore 8, 2) := by decide +kernel
theorem dL_sound_59 : decode cL_sound 59 = .ok (.iload 8, 2) := by decide +kernel
theorem dL_sound_61 : decode cL_sound 61 = .ok (.ifCond .lt 46, 3) := by decide +kernel
theorem dL_sound_64 : decode cL_sound 64 = .ok (.iload 8, 2) := by decide +kernel
theorem dL_sound_66 : decode cL_sound 66 = .ok (.aload_n 1, 1) := by decide +kernel
theorem dL_sound_67 : decode cL_sound 67 = .ok (.iconst 3, 1) := by decide +kernel
theorem dL_sound_68 : decode cL_sound 68 = .ok (.iload 7, 2) := by decide +kernel
theorem dL_sound_70 : decode cL_sound 70 = .ok (.imul, 1) := by decide +kernel
theorem dL_sound_71 : decode cL_sound 71 = .ok (.iconst 1, 1) := by decide +kernel
theorem dL_sound_72 : decode cL_sound 72 = .ok (.iadd, 1) := by decide +kernel
theorem dL_sound_73 : decode cL_sound 73 = .ok (.iaload, 1) := by decide +kernel
theorem dL_sound_74 : decode cL_sound 74 = .ok (.if_icmp .gt 33, 3) := by decide +kernel
theorem dL_sound_77 : decode cL_sound 77 = .ok (.aload_n 0, 1) := by decide +kernel
theorem dL_sound_78 : decode cL_sound 78 = .ok (.iload 7, 2) := by decide +kernel
theorem dL_sound_80 : decode cL_sound 80 = .ok (.invokevirtual 51, 3) := by decide +kernel
theorem dL_sound_83 : decode cL_sound 83 = .ok (.iload 8, 2) := by decide +kernel
theorem dL_sound_85 : decode cL_sound 85 = .ok (.aload_n 1, 1) := by decide +kernel
theorem dL_sound_86 : decode cL_sound 86 = .ok (.iconst 3, 1) := by decide +kernel
theorem dL_sound_87 : decode cL_sound 87 = .ok (.iload 7, 2) := by decide +kernel
theorem dL_sound_89 : decode cL_sound 89 = .ok (.imul, 1) := by decide +kernel
theorem dL_sound_90 : decode cL_sound 90 = .ok (.iconst 2, 1) := by decide +kernel
theorem dL_sound_91 : decode cL_sound 91 = .ok (.iadd, 1) := by decide +kernel
theorem dL_sound_92 : decode cL_sound 92 = .ok (.iaload, 1) := by decide +kernel
theorem dL_sound_93 : decode cL_sound 93 = .ok (.imul, 1) := by decide +kernel
theorem dL_sound_94 : decode cL_sound 94 = .ok (.bipush 99, 2) := by decide +kernel
theorem dL_sound_96 : decode cL_sound 96 = .ok (.iadd, 1) := by decide +kernel
theorem dL_sound_97 : decode cL_sound 97 = .ok (.bipush 100, 2) := by decide +kernel
theorem dL_sound_99 : decode cL_sound 99 = .ok (.idiv, 1) := by decide +kernel
theorem dL_sound_100 : decode cL_sound 100 = .ok (.if_icmp .ne 7, 3) := by decide +kernel
theorem dL_sound_103 : decode cL_sound 103 = .ok (.iconst 1, 1) := by decide +kernel
theorem dL_sound_104 : decode cL_sound 104 = .ok (.goto 4, 3) := by decide +kernel
theorem dL_sound_107 : decode cL_sound 107 = .ok (.iconst 0, 1) := by decide +kernel
theorem dL_sound_108 : decode cL_sound 108 = .ok (.istore 6, 2) := by decide +kernel
theorem dL_sound_110 : decode cL_sound 110 = .ok (.iinc 7 1, 3) := by decide +kernel
theorem dL_sound_113 : decode cL_sound 113 = .ok (.goto (-86), 3) := by decide +kernel
theorem dL_sound_116 : decode cL_sound 116 = .ok (.iconst 0, 1) := by decide +kernel
theorem dL_sound_117 : decode cL_sound 117 = .ok (.istore 7, 2) := by decide +kernel
theorem dL_sound_119 : decode cL_sound 119 = .ok (.iload 7, 2) := by decide +kernel
theorem dL_sound_121 : decode cL_sound 121 = .ok (.aload_n 3, 1) := by decide +kernel
theorem dL_sound_122 : decode cL_sound 122 = .ok (.iconst 1, 1) := by decide +kernel
theorem dL_sound_123 : decode cL_sound 123 = .ok (.iaload, 1) := by decide +kernel
theorem dL_sound_124 : decode cL_sound 124 = .ok (.if_icmp .ge 171, 3) := by decide +kernel
theorem dL_sound_127 : decode cL_sound 127 = .ok (.iload 6, 2) := by decide +kernel
theorem dL_sound_129 : decode cL_sound 129 = .ok (.ifCond .eq 166, 3) := by decide +kernel
theorem dL_sound_132 : decode cL_sound 132 = .ok (.iload 5, 2) := by decide +kernel
theorem dL_sound_134 : decode cL_sound 134 = .ok (.aload_n 0, 1) := by decide +kernel
theorem dL_sound_135 : decode cL_sound 135 = .ok (.iload 7, 2) := by decide +kernel
theorem dL_sound_137 : decode cL_sound 137 = .ok (.invokevirtual 54, 3) := by decide +kernel
theorem dL_sound_140 : decode cL_sound 140 = .ok (.iadd, 1) := by decide +kernel
theorem dL_sound_141 : decode cL_sound 141 = .ok (.istore 5, 2) := by decide +kernel
theorem dL_sound_143 : decode cL_sound 143 = .ok (.aload_n 0, 1) := by decide +kernel
theorem dL_sound_144 : decode cL_sound 144 = .ok (.iload 7, 2) := by decide +kernel
theorem dL_sound_146 : decode cL_sound 146 = .ok (.invokevirtual 57, 3) := by decide +kernel
theorem dL_sound_149 : decode cL_sound 149 = .ok (.istore 8, 2) := by decide +kernel
theorem dL_sound_151 : decode cL_sound 151 = .ok (.aload_n 0, 1) := by decide +kernel
theorem dL_sound_152 : decode cL_sound 152 = .ok (.iload 7, 2) := by decide +kernel
theorem dL_sound_154 : decode cL_sound 154 = .ok (.invokevirtual 54, 3) := by decide +kernel
theorem dL_sound_157 : decode cL_sound 157 = .ok (.aload_n 0, 1) := by decide +kernel
theorem dL_sound_158 : decode cL_sound 158 = .ok (.iload 7, 2) := by decide +kernel
theorem dL_sound_160 : decode cL_sound 160 = .ok (.invokevirtual 60, 3) := by decide +kernel
theorem dL_sound_163 : decode cL_sound 163 = .ok (.if_icmp .ne 7, 3) := by decide +kernel
theorem dL_sound_166 : decode cL_sound 166 = .ok (.iconst 1, 1) := by decide +kernel
theorem dL_sound_167 : decode cL_sound 167 = .ok (.goto 4, 3) := by decide +kernel
theorem dL_sound_170 : decode cL_sound 170 = .ok (.iconst 0, 1) := by decide +kernel
theorem dL_sound_171 : decode cL_sound 171 = .ok (.istore 9, 2) := by decide +kernel
theorem dL_sound_173 : decode cL_sound 173 = .ok (.aload_n 0, 1) := by decide +kernel
theorem dL_sound_174 : decode cL_sound 174 = .ok (.iload 7, 2) := by decide +kernel
theorem dL_sound_176 : decode cL_sound 176 = .ok (.invokevirtual 54, 3) := by decide +kernel
theorem dL_sound_179 : decode cL_sound 179 = .ok (.ifCond .lt 69, 3) := by decide +kernel
theorem dL_sound_182 : decode cL_sound 182 = .ok (.aload_n 0, 1) := by decide +kernel
theorem dL_sound_183 : decode cL_sound 183 = .ok (.iload 7, 2) := by decide +kernel
theorem dL_sound_185 : decode cL_sound 185 = .ok (.invokevirtual 54, 3) := by decide +kernel
theorem dL_sound_188 : decode cL_sound 188 = .ok (.aload_n 0, 1) := by decide +kernel
theorem dL_sound_189 : decode cL_sound 189 = .ok (.iload 7, 2) := by decide +kernel
theorem dL_sound_191 : decode cL_sound 191 = .ok (.invokevirtual 60, 3) := by decide +kernel
theorem dL_sound_194 : decode cL_sound 194 = .ok (.if_icmp .gt 54, 3) := by decide +kernel
theorem dL_sound_197 : decode cL_sound 197 = .ok (.iload 9, 2) := by decide +kernel
theorem dL_sound_199 : decode cL_sound 199 = .ok (.iload 8, 2) := by decide +kernel
theorem dL_sound_201 : decode cL_sound 201 = .ok (.bipush (-103), 2) := by decide +kernel
theorem dL_sound_203 : decode cL_sound 203 = .ok (.if_icmp .ne 7, 3) := by decide +kernel
theorem dL_sound_206 : decode cL_sound 206 = .ok (.iconst 1, 1) := by decide +kernel
theorem dL_sound_207 : decode cL_sound 207 = .ok (.goto 4, 3) := by decide +kernel
theorem dL_sound_210 : decode cL_sound 210 = .ok (.iconst 0, 1) := by decide +kernel
theorem dL_sound_211 : decode cL_sound 211 = .ok (.if_icmp .ne 37, 3) := by decide +kernel
theorem dL_sound_214 : decode cL_sound 214 = .ok (.iload 8, 2) := by decide +kernel
theorem dL_sound_216 : decode cL_sound 216 = .ok (.ifCond .ge 20, 3) := by decide +kernel
theorem dL_sound_219 : decode cL_sound 219 = .ok (.iload 8, 2) := by decide +kernel
theorem dL_sound_221 : decode cL_sound 221 = .ok (.bipush (-103), 2) := by decide +kernel
theorem dL_sound_223 : decode cL_sound 223 = .ok (.if_icmp .eq 21, 3) := by decide +kernel
theorem dL_sound_226 : decode cL_sound 226 = .ok (.iload 8, 2) := by decide +kernel
theorem dL_sound_228 : decode cL_sound 228 = .ok (.bipush (-105), 2) := by decide +kernel
theorem dL_sound_230 : decode cL_sound 230 = .ok (.if_icmp .ne 18, 3) := by decide +kernel
theorem dL_sound_233 : decode cL_sound 233 = .ok (.goto 11, 3) := by decide +kernel
theorem dL_sound_236 : decode cL_sound 236 = .ok (.iload 8, 2) := by decide +kernel
theorem dL_sound_238 : decode cL_sound 238 = .ok (.aload_n 3, 1) := by decide +kernel
theorem dL_sound_239 : decode cL_sound 239 = .ok (.iconst 0, 1) := by decide +kernel
theorem dL_sound_240 : decode cL_sound 240 = .ok (.iaload, 1) := by decide +kernel
theorem dL_sound_241 : decode cL_sound 241 = .ok (.if_icmp .ge 7, 3) := by decide +kernel
theorem dL_sound_244 : decode cL_sound 244 = .ok (.iconst 1, 1) := by decide +kernel
theorem dL_sound_245 : decode cL_sound 245 = .ok (.goto 4, 3) := by decide +kernel
theorem dL_sound_248 : decode cL_sound 248 = .ok (.iconst 0, 1) := by decide +kernel
theorem dL_sound_249 : decode cL_sound 249 = .ok (.istore 6, 2) := by decide +kernel
theorem dL_sound_251 : decode cL_sound 251 = .ok (.iload 6, 2) := by decide +kernel
theorem dL_sound_253 : decode cL_sound 253 = .ok (.ifCond .eq 33, 3) := by decide +kernel
theorem dL_sound_256 : decode cL_sound 256 = .ok (.iload 7, 2) := by decide +kernel
theorem dL_sound_258 : decode cL_sound 258 = .ok (.ifCond .eq 24, 3) := by decide +kernel
theorem dL_sound_261 : decode cL_sound 261 = .ok (.aload_n 2, 1) := by decide +kernel
theorem dL_sound_262 : decode cL_sound 262 = .ok (.aload_n 0, 1) := by decide +kernel
theorem dL_sound_263 : decode cL_sound 263 = .ok (.iload 7, 2) := by decide +kernel
theorem dL_sound_265 : decode cL_sound 265 = .ok (.iconst 1, 1) := by decide +kernel
theorem dL_sound_266 : decode cL_sound 266 = .ok (.isub, 1) := by decide +kernel
theorem dL_sound_267 : decode cL_sound 267 = .ok (.invokevirtual 63, 3) := by decide +kernel
theorem dL_sound_270 : decode cL_sound 270 = .ok (.aload_n 0, 1) := by decide +kernel
theorem dL_sound_271 : decode cL_sound 271 = .ok (.iload 7, 2) := by decide +kernel
theorem dL_sound_273 : decode cL_sound 273 = .ok (.invokevirtual 63, 3) := by decide +kernel
theorem dL_sound_276 : decode cL_sound 276 = .ok (.invokestatic 66, 3) := by decide +kernel
theorem dL_sound_279 : decode cL_sound 279 = .ok (.ifCond .eq 7, 3) := by decide +kernel
theorem dL_sound_282 : decode cL_sound 282 = .ok (.iconst 1, 1) := by decide +kernel
theorem dL_sound_283 : decode cL_sound 283 = .ok (.goto 4, 3) := by decide +kernel
theorem dL_sound_286 : decode cL_sound 286 = .ok (.iconst 0, 1) := by decide +kernel
theorem dL_sound_287 : decode cL_sound 287 = .ok (.istore 6, 2) := by decide +kernel
theorem dL_sound_289 : decode cL_sound 289 = .ok (.iinc 7 1, 3) := by decide +kernel
theorem dL_sound_292 : decode cL_sound 292 = .ok (.goto (-173), 3) := by decide +kernel
theorem dL_sound_295 : decode cL_sound 295 = .ok (.iload 6, 2) := by decide +kernel
theorem dL_sound_297 : decode cL_sound 297 = .ok (.ifCond .eq 44, 3) := by decide +kernel
theorem dL_sound_300 : decode cL_sound 300 = .ok (.aload_n 0, 1) := by decide +kernel
theorem dL_sound_301 : decode cL_sound 301 = .ok (.iconst 0, 1) := by decide +kernel
theorem dL_sound_302 : decode cL_sound 302 = .ok (.invokevirtual 48, 3) := by decide +kernel
theorem dL_sound_305 : decode cL_sound 305 = .ok (.iload 4, 2) := by decide +kernel
theorem dL_sound_307 : decode cL_sound 307 = .ok (.iload 5, 2) := by decide +kernel
theorem dL_sound_309 : decode cL_sound 309 = .ok (.iadd, 1) := by decide +kernel
theorem dL_sound_310 : decode cL_sound 310 = .ok (.if_icmp .ne 31, 3) := by decide +kernel
theorem dL_sound_313 : decode cL_sound 313 = .ok (.aload_n 0, 1) := by decide +kernel
theorem dL_sound_314 : decode cL_sound 314 = .ok (.aload_n 3, 1) := by decide +kernel
theorem dL_sound_315 : decode cL_sound 315 = .ok (.iconst 1, 1) := by decide +kernel
theorem dL_sound_316 : decode cL_sound 316 = .ok (.iaload, 1) := by decide +kernel
theorem dL_sound_317 : decode cL_sound 317 = .ok (.invokevirtual 57, 3) := by decide +kernel
theorem dL_sound_320 : decode cL_sound 320 = .ok (.bipush (-101), 2) := by decide +kernel
theorem dL_sound_322 : decode cL_sound 322 = .ok (.if_icmp .ne 19, 3) := by decide +kernel
theorem dL_sound_325 : decode cL_sound 325 = .ok (.aload_n 0, 1) := by decide +kernel
theorem dL_sound_326 : decode cL_sound 326 = .ok (.aload_n 3, 1) := by decide +kernel
theorem dL_sound_327 : decode cL_sound 327 = .ok (.iconst 0, 1) := by decide +kernel
theorem dL_sound_328 : decode cL_sound 328 = .ok (.iaload, 1) := by decide +kernel
theorem dL_sound_329 : decode cL_sound 329 = .ok (.invokevirtual 70, 3) := by decide +kernel
theorem dL_sound_332 : decode cL_sound 332 = .ok (.bipush (-101), 2) := by decide +kernel
theorem dL_sound_334 : decode cL_sound 334 = .ok (.if_icmp .ne 7, 3) := by decide +kernel
theorem dL_sound_337 : decode cL_sound 337 = .ok (.iconst 1, 1) := by decide +kernel
theorem dL_sound_338 : decode cL_sound 338 = .ok (.goto 4, 3) := by decide +kernel
theorem dL_sound_341 : decode cL_sound 341 = .ok (.iconst 0, 1) := by decide +kernel
theorem dL_sound_342 : decode cL_sound 342 = .ok (.ireturn, 1) := by decide +kernel
theorem dL_older_0 : decode cL_older 0 = .ok (.aload_n 0, 1) := by decide +kernel
theorem dL_older_1 : decode cL_older 1 = .ok (.iconst 5, 1) := by decide +kernel
theorem dL_older_2 : decode cL_older 2 = .ok (.iload_n 1, 1) := by decide +kernel
theorem dL_older_3 : decode cL_older 3 = .ok (.imul, 1) := by decide +kernel
theorem dL_older_4 : decode cL_older 4 = .ok (.iconst 1, 1) := by decide +kernel
theorem dL_older_5 : decode cL_older 5 = .ok (.iadd, 1) := by decide +kernel
theorem dL_older_6 : decode cL_older 6 = .ok (.iaload, 1) := by decide +kernel
theorem dL_older_7 : decode cL_older 7 = .ok (.aload_n 0, 1) := by decide +kernel
theorem dL_older_8 : decode cL_older 8 = .ok (.iconst 5, 1) := by decide +kernel
theorem dL_older_9 : decode cL_older 9 = .ok (.iload_n 2, 1) := by decide +kernel
theorem dL_older_10 : decode cL_older 10 = .ok (.imul, 1) := by decide +kernel
theorem dL_older_11 : decode cL_older 11 = .ok (.iconst 1, 1) := by decide +kernel
theorem dL_older_12 : decode cL_older 12 = .ok (.iadd, 1) := by decide +kernel
theorem dL_older_13 : decode cL_older 13 = .ok (.iaload, 1) := by decide +kernel
theorem dL_older_14 : decode cL_older 14 = .ok (.if_icmp .lt 25, 3) := by decide +kernel
theorem dL_older_17 : decode cL_older 17 = .ok (.aload_n 0, 1) := by decide +kernel
theorem dL_older_18 : decode cL_older 18 = .ok (.iconst 5, 1) := by decide +kernel
theorem dL_older_19 : decode cL_older 19 = .ok (.iload_n 1, 1) := by decide +kernel
theorem dL_older_20 : decode cL_older 20 = .ok (.imul, 1) := by decide +kernel
theorem dL_older_21 : decode cL_older 21 = .ok (.iconst 1, 1) := by decide +kernel
theorem dL_older_22 : decode cL_older 22 = .ok (.iadd, 1) := by decide +kernel
theorem dL_older_23 : decode cL_older 23 = .ok (.iaload, 1) := by decide +kernel
theorem dL_older_24 : decode cL_older 24 = .ok (.aload_n 0, 1) := by decide +kernel
theorem dL_older_25 : decode cL_older 25 = .ok (.iconst 5, 1) := by decide +kernel
theorem dL_older_26 : decode cL_older 26 = .ok (.iload_n 2, 1) := by decide +kernel
theorem dL_older_27 : decode cL_older 27 = .ok (.imul, 1) := by decide +kernel
theorem dL_older_28 : decode cL_older 28 = .ok (.iconst 1, 1) := by decide +kernel
theorem dL_older_29 : decode cL_older 29 = .ok (.iadd, 1) := by decide +kernel
theorem dL_older_30 : decode cL_older 30 = .ok (.iaload, 1) := by decide +kernel
theorem dL_older_31 : decode cL_older 31 = .ok (.if_icmp .ne 12, 3) := by decide +kernel
theorem dL_older_34 : decode cL_older 34 = .ok (.iload_n 1, 1) := by decide +kernel
theorem dL_older_35 : decode cL_older 35 = .ok (.iload_n 2, 1) := by decide +kernel
theorem dL_older_36 : decode cL_older 36 = .ok (.if_icmp .ge 7, 3) := by decide +kernel
theorem dL_older_39 : decode cL_older 39 = .ok (.iconst 1, 1) := by decide +kernel
theorem dL_older_40 : decode cL_older 40 = .ok (.goto 4, 3) := by decide +kernel
theorem dL_older_43 : decode cL_older 43 = .ok (.iconst 0, 1) := by decide +kernel
theorem dL_older_44 : decode cL_older 44 = .ok (.ireturn, 1) := by decide +kernel
set_option maxRecDepth 20000 in
theorem ggL_eldest_X5_userByAge : GoodIn wsL_eldest wsX5_userByAge := goodIn_r _ [5, 6, 7, 8, 9, 10, 11, 12, 13, 202, 203, 204, 205, 206, 207, 208, 209, 210, 211, 212, 213, 214, 215, 216, 217] (by decide +kernel) (by decide +kernel)
set_option maxRecDepth 20000 in
theorem gL_eldest_X5_userByAge : GoodIn wsL_eldest (wsV RL 63 RX5 yX5_userByAge wsX5_userByAge) := goodIn_app (goodIn_of _ (by decide +kernel)) ggL_eldest_X5_userByAge
set_option maxRecDepth 20000 in
theorem ggL_eldest_X5_setRule : GoodIn wsL_eldest wsX5_setRule := goodIn_r _ [17, 6, 18, 19, 20, 4, 21, 202, 203, 204, 205, 206, 207, 208, 209, 210, 211, 212, 213, 214, 215, 216, 217] (by decide +kernel) (by decide +kernel)
set_option maxRecDepth 20000 in
theorem gL_eldest_X5_setRule : GoodIn wsL_eldest (wsV RL 24 RX5 yX5_setRule wsX5_setRule) := goodIn_app (goodIn_of _ (by decide +kernel)) ggL_eldest_X5_setRule
set_option maxRecDepth 20000 in
theorem ggL_eldest_X5_gets : GoodIn wsL_eldest wsX5_gets := goodIn_r _ [25, 6, 26, 27, 8, 9, 10, 11, 12, 13, 28, 29, 30, 31, 32, 33, 34, 35, 36, 37, 38, 39, 40, 41, 42, 43, 44, 45, 46, 47, 48, 49, 50, 51, 52, 53, 54, 55, 56, 57, 58, 59, 60, 61, 62, 63, 64, 65, 66, 67, 68, 69, 70, 71, 72, 73, 74, 75, 76, 77, 78, 79, 80, 81, 82, 83, 84, 85, 86, 87, 88, 89, 90, 91, 92, 93, 94, 95, 96, 97, 98, 99, 100, 101, 102, 103, 104, 105, 106, 107, 108, 109, 110, 111, 112, 113, 114, 115, 116, 117, 118, 119, 120, 121, 122, 123, 124, 125, 126, 127, 128, 202, 203, 204, 205, 206, 207, 218, 219, 220, 221, 222, 223, 208, 209, 210, 211, 212, 213, 214, 215, 216, 217, 224, 225, 226, 227, 228, 229, 230, 231, 232, 233, 234, 235, 236, 237, 238] (by decide +kernel) (by decide +kernel)
set_option maxRecDepth 20000 in
theorem gL_eldest_X5_gets : GoodIn wsL_eldest (wsV RL 54 RX5 yX5_gets wsX5_gets) := goodIn_app (goodIn_of _ (by decide +kernel)) ggL_eldest_X5_gets
set_option maxRecDepth 20000 in
theorem ggL_eldest_X5_save : GoodIn wsL_eldest wsX5_save := goodIn_r _ [132, 133, 6, 134, 135, 19, 20, 4, 21, 136, 137, 138, 11, 139, 140, 141, 142, 143, 144, 13, 57, 145, 43, 146, 59, 147, 48, 148, 149, 150, 106, 151, 152, 153, 108, 154, 155, 156, 73, 157, 158, 159, 160, 77, 75, 76, 82, 83, 161, 162, 163, 164, 165, 166, 167, 168, 202, 203, 204, 205, 206, 207, 208, 209, 210, 211, 212, 213, 214, 215, 216, 217, 236, 237, 238, 224, 225, 226, 227, 228, 229, 230, 231, 232, 233, 234, 235] (by decide +kernel) (by decide +kernel)
set_option maxRecDepth 20000 in
theorem gL_eldest_X5_save : GoodIn wsL_eldest (wsV RL 73 RX5 yX5_save wsX5_save) := goodIn_app (goodIn_of _ (by decide +kernel)) ggL_eldest_X5_save
set_option maxRecDepth 20000 in
theorem ggL_eldest_X5_time : GoodIn wsL_eldest wsX5_time := goodIn_r _ [172, 6, 135, 202, 203, 204, 205, 206, 207, 208, 209, 210, 211, 212, 213, 214, 215, 216, 217] (by decide +kernel) (by decide +kernel)
set_option maxRecDepth 20000 in
theorem gL_eldest_X5_time : GoodIn wsL_eldest (wsV RL 76 RX5 yX5_time wsX5_time) := goodIn_app (goodIn_of _ (by decide +kernel)) ggL_eldest_X5_time
set_option maxRecDepth 20000 in
theorem ggL_eldest_X5_gain : GoodIn wsL_eldest wsX5_gain := goodIn_r _ [176, 6, 8, 9, 10, 11, 12, 13, 177, 178, 179, 180, 57, 181, 182, 183, 184, 4, 185, 26, 27, 186, 187, 188, 28, 29, 30, 31, 32, 33, 34, 35, 36, 37, 38, 39, 40, 41, 42, 43, 44, 45, 46, 47, 48, 49, 50, 51, 52, 53, 54, 55, 56, 58, 59, 60, 61, 62, 63, 64, 65, 66, 67, 68, 69, 70, 71, 72, 73, 74, 75, 76, 77, 78, 79, 80, 81, 82, 83, 84, 85, 86, 87, 88, 89, 90, 91, 92, 93, 94, 95, 96, 97, 98, 99, 100, 101, 102, 103, 104, 105, 106, 107, 108, 109, 110, 111, 112, 113, 114, 115, 116, 117, 118, 119, 120, 121, 122, 123, 124, 125, 126, 127, 128, 136, 137, 138, 139, 140, 141, 142, 143, 144, 145, 146, 147, 148, 149, 150, 151, 152, 153, 154, 155, 156, 157, 158, 159, 160, 161, 162, 163, 164, 165, 166, 167, 168, 202, 203, 204, 205, 206, 207, 208, 209, 210, 211, 212, 213, 214, 215, 216, 217, 224, 225, 226, 227, 228, 229, 230, 231, 232, 233, 234, 235, 218, 219, 220, 221, 222, 223, 236, 237, 238] (by decide +kernel) (by decide +kernel)
set_option maxRecDepth 20000 in
theorem gL_eldest_X5_gain : GoodIn wsL_eldest (wsV RL 79 RX5 yX5_gain wsX5_gain) := goodIn_app (goodIn_of _ (by decide +kernel)) ggL_eldest_X5_gain
set_option maxRecDepth 20000 in
theorem ggL_eldest_X5_complaint : GoodIn wsL_eldest wsX5_complaint := goodIn_r _ [192, 6, 8, 9, 10, 11, 12, 13, 177, 178, 179, 180, 57, 181, 193, 194, 195, 4, 196, 26, 27, 197, 28, 29, 30, 31, 32, 33, 34, 35, 36, 37, 38, 39, 40, 41, 42, 43, 44, 45, 46, 47, 48, 49, 50, 51, 52, 53, 54, 55, 56, 58, 59, 60, 61, 62, 63, 64, 65, 66, 67, 68, 69, 70, 71, 72, 73, 74, 75, 76, 77, 78, 79, 80, 81, 82, 83, 84, 85, 86, 87, 88, 89, 90, 91, 92, 93, 94, 95, 96, 97, 98, 99, 100, 101, 102, 103, 104, 105, 106, 107, 108, 109, 110, 111, 112, 113, 114, 115, 116, 117, 118, 119, 120, 121, 122, 123, 124, 125, 126, 127, 128, 198, 199, 200, 201, 182, 183, 184, 185, 186, 187, 188, 136, 137, 138, 139, 140, 141, 142, 143, 144, 145, 146, 147, 148, 149, 150, 151, 152, 153, 154, 155, 156, 157, 158, 159, 160, 161, 162, 163, 164, 165, 166, 167, 168, 202, 203, 204, 205, 206, 207, 208, 209, 210, 211, 212, 213, 214, 215, 216, 217, 224, 225, 226, 227, 228, 229, 230, 231, 232, 233, 234, 235, 218, 219, 220, 221, 222, 223, 236, 237, 238] (by decide +kernel) (by decide +kernel)
set_option maxRecDepth 20000 in
theorem gL_eldest_X5_complaint : GoodIn wsL_eldest (wsV RL 83 RX5 yX5_complaint wsX5_complaint) := goodIn_app (goodIn_of _ (by decide +kernel)) ggL_eldest_X5_complaint
theorem dL_eldest_0 : decode cL_eldest 0 = .ok (.aload_n 0, 1) := by decide +kernel
theorem dL_eldest_1 : decode cL_eldest 1 = .ok (.iconst 0, 1) := by decide +kernel
theorem dL_eldest_2 : decode cL_eldest 2 = .ok (.invokevirtual 63, 3) := by decide +kernel
theorem dL_eldest_5 : decode cL_eldest 5 = .ok (.istore_n 2, 1) := by decide +kernel
theorem dL_eldest_6 : decode cL_eldest 6 = .ok (.aload_n 0, 1) := by decide +kernel
theorem dL_eldest_7 : decode cL_eldest 7 = .ok (.iconst 0, 1) := by decide +kernel
theorem dL_eldest_8 : decode cL_eldest 8 = .ok (.invokevirtual 24, 3) := by decide +kernel
theorem dL_eldest_11 : decode cL_eldest 11 = .ok (.istore_n 3, 1) := by decide +kernel
theorem dL_eldest_12 : decode cL_eldest 12 = .ok (.aload_n 0, 1) := by decide +kernel
theorem dL_eldest_13 : decode cL_eldest 13 = .ok (.iload_n 2, 1) := by decide +kernel
theorem dL_eldest_14 : decode cL_eldest 14 = .ok (.invokevirtual 54, 3) := by decide +kernel
theorem dL_eldest_17 : decode cL_eldest 17 = .ok (.istore 4, 2) := by decide +kernel
theorem dL_eldest_19 : decode cL_eldest 19 = .ok (.aload_n 0, 1) := by decide +kernel
theorem dL_eldest_20 : decode cL_eldest 20 = .ok (.iconst 1, 1) := by decide +kernel
theorem dL_eldest_21 : decode cL_eldest 21 = .ok (.invokevirtual 73, 3) := by decide +kernel
theorem dL_eldest_24 : decode cL_eldest 24 = .ok (.aload_n 0, 1) := by decide +kernel
theorem dL_eldest_25 : decode cL_eldest 25 = .ok (.invokevirtual 76, 3) := by decide +kernel
theorem dL_eldest_28 : decode cL_eldest 28 = .ok (.if_icmp .ne 7, 3) := by decide +kernel
theorem dL_eldest_31 : decode cL_eldest 31 = .ok (.iconst 1, 1) := by decide +kernel
theorem dL_eldest_32 : decode cL_eldest 32 = .ok (.goto 4, 3) := by decide +kernel
theorem dL_eldest_35 : decode cL_eldest 35 = .ok (.iconst 0, 1) := by decide +kernel
theorem dL_eldest_36 : decode cL_eldest 36 = .ok (.istore 5, 2) := by decide +kernel
theorem dL_eldest_38 : decode cL_eldest 38 = .ok (.iconst 0, 1) := by decide +kernel
theorem dL_eldest_39 : decode cL_eldest 39 = .ok (.istore 6, 2) := by decide +kernel
theorem dL_eldest_41 : decode cL_eldest 41 = .ok (.iload 6, 2) := by decide +kernel
theorem dL_eldest_43 : decode cL_eldest 43 = .ok (.aload_n 1, 1) := by decide +kernel
theorem dL_eldest_44 : decode cL_eldest 44 = .ok (.iconst 1, 1) := by decide +kernel
theorem dL_eldest_45 : decode cL_eldest 45 = .ok (.iaload, 1) := by decide +kernel
theorem dL_eldest_46 : decode cL_eldest 46 = .ok (.if_icmp .ge 48, 3) := by decide +kernel
theorem dL_eldest_49 : decode cL_eldest 49 = .ok (.iload 5, 2) := by decide +kernel
theorem dL_eldest_51 : decode cL_eldest 51 = .ok (.ifCond .eq 34, 3) := by decide +kernel
theorem dL_eldest_54 : decode cL_eldest 54 = .ok (.iload 6, 2) := by decide +kernel
theorem dL_eldest_56 : decode cL_eldest 56 = .ok (.iload_n 2, 1) := by decide +kernel
theorem dL_eldest_57 : decode cL_eldest 57 = .ok (.if_icmp .eq 24, 3) := by decide +kernel
theorem dL_eldest_60 : decode cL_eldest 60 = .ok (.aload_n 0, 1) := by decide +kernel
theorem dL_eldest_61 : decode cL_eldest 61 = .ok (.iload_n 2, 1) := by decide +kernel
theorem dL_eldest_62 : decode cL_eldest 62 = .ok (.iload 6, 2) := by decide +kernel
theorem dL_eldest_64 : decode cL_eldest 64 = .ok (.invokevirtual 79, 3) := by decide +kernel
theorem dL_eldest_67 : decode cL_eldest 67 = .ok (.ifCond .ne 18, 3) := by decide +kernel
theorem dL_eldest_70 : decode cL_eldest 70 = .ok (.aload_n 0, 1) := by decide +kernel
theorem dL_eldest_71 : decode cL_eldest 71 = .ok (.iload_n 2, 1) := by decide +kernel
theorem dL_eldest_72 : decode cL_eldest 72 = .ok (.iload 6, 2) := by decide +kernel
theorem dL_eldest_74 : decode cL_eldest 74 = .ok (.invokevirtual 83, 3) := by decide +kernel
theorem dL_eldest_77 : decode cL_eldest 77 = .ok (.iconst 2, 1) := by decide +kernel
theorem dL_eldest_78 : decode cL_eldest 78 = .ok (.if_icmp .eq 7, 3) := by decide +kernel
theorem dL_eldest_81 : decode cL_eldest 81 = .ok (.iconst 1, 1) := by decide +kernel
theorem dL_eldest_82 : decode cL_eldest 82 = .ok (.goto 4, 3) := by decide +kernel
theorem dL_eldest_85 : decode cL_eldest 85 = .ok (.iconst 0, 1) := by decide +kernel
theorem dL_eldest_86 : decode cL_eldest 86 = .ok (.istore 5, 2) := by decide +kernel
theorem dL_eldest_88 : decode cL_eldest 88 = .ok (.iinc 6 1, 3) := by decide +kernel
theorem dL_eldest_91 : decode cL_eldest 91 = .ok (.goto (-50), 3) := by decide +kernel
theorem dL_eldest_94 : decode cL_eldest 94 = .ok (.iload 5, 2) := by decide +kernel
theorem dL_eldest_96 : decode cL_eldest 96 = .ok (.ifCond .eq 25, 3) := by decide +kernel
theorem dL_eldest_99 : decode cL_eldest 99 = .ok (.aload_n 0, 1) := by decide +kernel
theorem dL_eldest_100 : decode cL_eldest 100 = .ok (.iload_n 2, 1) := by decide +kernel
theorem dL_eldest_101 : decode cL_eldest 101 = .ok (.invokevirtual 54, 3) := by decide +kernel
theorem dL_eldest_104 : decode cL_eldest 104 = .ok (.iload 4, 2) := by decide +kernel
theorem dL_eldest_106 : decode cL_eldest 106 = .ok (.if_icmp .ne 15, 3) := by decide +kernel
theorem dL_eldest_109 : decode cL_eldest 109 = .ok (.aload_n 0, 1) := by decide +kernel
theorem dL_eldest_110 : decode cL_eldest 110 = .ok (.iload_n 3, 1) := by decide +kernel
theorem dL_eldest_111 : decode cL_eldest 111 = .ok (.invokevirtual 24, 3) := by decide +kernel
theorem dL_eldest_114 : decode cL_eldest 114 = .ok (.ifCond .ne 7, 3) := by decide +kernel
theorem dL_eldest_117 : decode cL_eldest 117 = .ok (.iconst 1, 1) := by decide +kernel
theorem dL_eldest_118 : decode cL_eldest 118 = .ok (.goto 4, 3) := by decide +kernel
theorem dL_eldest_121 : decode cL_eldest 121 = .ok (.iconst 0, 1) := by decide +kernel
theorem dL_eldest_122 : decode cL_eldest 122 = .ok (.ireturn, 1) := by decide +kernel
set_option maxRecDepth 20000 in
theorem ggL_refuses_X5_checksum : GoodIn wsL_refuses wsX5_checksum := goodIn_r _ [5, 6, 7, 8, 9, 10, 11, 12, 13, 14, 15, 16, 17, 18, 19, 20, 21, 22, 23, 24, 25, 26, 27, 28, 29, 30, 31, 32, 33, 34, 35, 36, 37, 38, 39, 40, 41, 42, 43, 44, 45, 46, 47, 48, 49, 50, 51, 52, 53, 54, 55, 56, 57, 58, 59, 60, 61, 62, 63, 64, 65, 66, 67, 68, 69, 70, 71, 72, 73, 74, 75, 76, 77, 78, 79, 80, 81, 82, 83, 84, 85, 86, 87, 88, 89, 90, 91, 92, 93, 94, 95, 96, 97, 98, 99, 100, 101, 102, 103, 104, 105, 106, 107, 108, 109, 110, 111, 112, 113, 114, 115, 116, 117, 118, 119, 120, 121, 122, 123, 124, 125, 126, 127, 4, 128, 129, 130, 131, 132, 133, 134, 135, 340, 341, 342, 343, 344, 345, 346, 347, 348, 349, 350, 351, 352, 353, 354, 355, 356, 357, 358, 359, 360, 361, 362, 363, 364, 365, 366, 367, 368, 369, 370, 371, 372, 373, 374, 375, 376] (by decide +kernel) (by decide +kernel)
set_option maxRecDepth 20000 in
theorem gL_refuses_X5_checksum : GoodIn wsL_refuses (wsV RL 86 RX5 yX5_checksum wsX5_checksum) := goodIn_app (goodIn_of _ (by decide +kernel)) ggL_refuses_X5_checksum
set_option maxRecDepth 20000 in
theorem ggL_refuses_X5_addDitch : GoodIn wsL_refuses wsX5_addDitch := goodIn_r _ [139, 7, 11, 140, 141, 142, 29, 143, 144, 145, 146, 4, 147, 148, 149, 150, 151, 152, 153, 154, 155, 156, 157, 158, 159, 160, 161, 162, 163, 95, 164, 165, 166, 97, 340, 341, 342, 343, 344, 345, 346, 347, 348, 349, 350, 351, 352, 353, 354, 355, 374, 375, 376] (by decide +kernel) (by decide +kernel)
set_option maxRecDepth 20000 in
theorem gL_refuses_X5_addDitch : GoodIn wsL_refuses (wsV RL 28 RX5 yX5_addDitch wsX5_addDitch) := goodIn_app (goodIn_of _ (by decide +kernel)) ggL_refuses_X5_addDitch
set_option maxRecDepth 20000 in
theorem ggL_refuses_X5_setDitch : GoodIn wsL_refuses wsX5_setDitch := goodIn_r _ [170, 7, 171, 172, 173, 140, 141, 142, 29, 143, 144, 145, 146, 4, 147, 148, 149, 150, 340, 341, 342, 343, 344, 345, 346, 347, 348, 349, 350, 351, 352, 353, 354, 355, 374, 375, 376] (by decide +kernel) (by decide +kernel)
set_option maxRecDepth 20000 in
theorem gL_refuses_X5_setDitch : GoodIn wsL_refuses (wsV RL 15 RX5 yX5_setDitch wsX5_setDitch) := goodIn_app (goodIn_of _ (by decide +kernel)) ggL_refuses_X5_setDitch
set_option maxRecDepth 20000 in
theorem ggL_refuses_X5_addUser : GoodIn wsL_refuses wsX5_addUser := goodIn_r _ [177, 7, 12, 140, 141, 142, 29, 143, 144, 148, 149, 4, 150, 178, 179, 180, 181, 45, 182, 183, 184, 185, 46, 186, 187, 188, 189, 190, 191, 62, 192, 193, 194, 195, 66, 64, 65, 71, 72, 196, 197, 198, 199, 340, 341, 342, 343, 344, 345, 346, 347, 348, 349, 350, 351, 352, 353, 354, 355, 362, 363, 364, 365, 366, 367, 368, 369, 370, 371, 372, 373] (by decide +kernel) (by decide +kernel)
set_option maxRecDepth 20000 in
theorem gL_refuses_X5_addUser : GoodIn wsL_refuses (wsV RL 31 RX5 yX5_addUser wsX5_addUser) := goodIn_app (goodIn_of _ (by decide +kernel)) ggL_refuses_X5_addUser
set_option maxRecDepth 20000 in
theorem ggL_refuses_X5_setField : GoodIn wsL_refuses wsX5_setField := goodIn_r _ [203, 7, 129, 204, 205, 206, 207, 104, 105, 29, 106, 45, 148, 149, 4, 150, 208, 209, 210, 340, 341, 342, 343, 344, 345, 346, 347, 348, 349, 350, 351, 352, 353, 354, 355, 362, 363, 364, 365, 366, 367, 368, 369, 370, 371, 372, 373] (by decide +kernel) (by decide +kernel)
set_option maxRecDepth 20000 in
theorem gL_refuses_X5_setField : GoodIn wsL_refuses (wsV RL 34 RX5 yX5_setField wsX5_setField) := goodIn_app (goodIn_of _ (by decide +kernel)) ggL_refuses_X5_setField
set_option maxRecDepth 20000 in
theorem ggL_refuses_X5_setPond : GoodIn wsL_refuses wsX5_setPond := goodIn_r _ [214, 7, 129, 215, 216, 132, 217, 56, 57, 58, 207, 104, 105, 29, 106, 45, 148, 149, 4, 150, 340, 341, 342, 343, 344, 345, 346, 347, 348, 349, 350, 351, 352, 353, 354, 355, 362, 363, 364, 365, 366, 367, 368, 369, 370, 371, 372, 373] (by decide +kernel) (by decide +kernel)
set_option maxRecDepth 20000 in
theorem gL_refuses_X5_setPond : GoodIn wsL_refuses (wsV RL 38 RX5 yX5_setPond wsX5_setPond) := goodIn_app (goodIn_of _ (by decide +kernel)) ggL_refuses_X5_setPond
set_option maxRecDepth 20000 in
theorem ggL_refuses_X5_setTurn : GoodIn wsL_refuses wsX5_setTurn := goodIn_r _ [221, 7, 129, 222, 207, 104, 105, 29, 106, 45, 148, 149, 4, 150, 340, 341, 342, 343, 344, 345, 346, 347, 348, 349, 350, 351, 352, 353, 354, 355, 362, 363, 364, 365, 366, 367, 368, 369, 370, 371, 372, 373] (by decide +kernel) (by decide +kernel)
set_option maxRecDepth 20000 in
theorem gL_refuses_X5_setTurn : GoodIn wsL_refuses (wsV RL 90 RX5 yX5_setTurn wsX5_setTurn) := goodIn_app (goodIn_of _ (by decide +kernel)) ggL_refuses_X5_setTurn
set_option maxRecDepth 20000 in
theorem ggL_refuses_X5_setSupply : GoodIn wsL_refuses wsX5_setSupply := goodIn_r _ [226, 7, 227, 208, 209, 4, 210, 148, 149, 150, 228, 229, 230, 29, 231, 232, 233, 57, 234, 31, 340, 341, 342, 343, 344, 345, 346, 347, 348, 349, 350, 351, 352, 353, 354, 355] (by decide +kernel) (by decide +kernel)
set_option maxRecDepth 20000 in
theorem gL_refuses_X5_setSupply : GoodIn wsL_refuses (wsV RL 21 RX5 yX5_setSupply wsX5_setSupply) := goodIn_app (goodIn_of _ (by decide +kernel)) ggL_refuses_X5_setSupply
set_option maxRecDepth 20000 in
theorem ggL_refuses_X5_setRule : GoodIn wsL_refuses wsX5_setRule := goodIn_r _ [238, 7, 239, 148, 149, 4, 150, 340, 341, 342, 343, 344, 345, 346, 347, 348, 349, 350, 351, 352, 353, 354, 355] (by decide +kernel) (by decide +kernel)
set_option maxRecDepth 20000 in
theorem gL_refuses_X5_setRule : GoodIn wsL_refuses (wsV RL 24 RX5 yX5_setRule wsX5_setRule) := goodIn_app (goodIn_of _ (by decide +kernel)) ggL_refuses_X5_setRule
set_option maxRecDepth 20000 in
theorem ggL_refuses_X5_setFutile : GoodIn wsL_refuses wsX5_setFutile := goodIn_r _ [243, 7, 244, 148, 149, 4, 150, 340, 341, 342, 343, 344, 345, 346, 347, 348, 349, 350, 351, 352, 353, 354, 355] (by decide +kernel) (by decide +kernel)
set_option maxRecDepth 20000 in
theorem gL_refuses_X5_setFutile : GoodIn wsL_refuses (wsV RL 93 RX5 yX5_setFutile wsX5_setFutile) := goodIn_app (goodIn_of _ (by decide +kernel)) ggL_refuses_X5_setFutile
set_option maxRecDepth 20000 in
theorem ggL_refuses_X5_advance : GoodIn wsL_refuses wsX5_advance := goodIn_r _ [248, 7, 6, 148, 149, 4, 150, 249, 250, 251, 29, 252, 253, 254, 144, 45, 46, 255, 36, 256, 16, 17, 18, 19, 20, 21, 22, 23, 24, 25, 26, 27, 28, 30, 31, 32, 33, 34, 35, 37, 38, 39, 40, 41, 42, 43, 44, 47, 48, 49, 50, 51, 52, 53, 54, 55, 56, 57, 58, 59, 60, 61, 62, 63, 64, 65, 66, 67, 68, 69, 70, 71, 72, 73, 74, 75, 76, 77, 78, 79, 80, 81, 82, 83, 84, 85, 86, 87, 88, 89, 90, 91, 92, 93, 94, 95, 96, 97, 98, 99, 100, 101, 102, 103, 104, 105, 106, 107, 108, 109, 110, 111, 112, 113, 114, 115, 116, 117, 118, 119, 120, 257, 258, 122, 123, 124, 259, 260, 261, 262, 263, 264, 265, 340, 341, 342, 343, 344, 345, 346, 347, 348, 349, 350, 351, 352, 353, 354, 355, 356, 357, 358, 359, 360, 361, 362, 363, 364, 365, 366, 367, 368, 369, 370, 371, 372, 373, 374, 375, 376] (by decide +kernel) (by decide +kernel)
set_option maxRecDepth 20000 in
theorem gL_refuses_X5_advance : GoodIn wsL_refuses (wsV RL 96 RX5 yX5_advance wsX5_advance) := goodIn_app (goodIn_of _ (by decide +kernel)) ggL_refuses_X5_advance
set_option maxRecDepth 20000 in
theorem ggL_refuses_X5_gain : GoodIn wsL_refuses wsX5_gain := goodIn_r _ [269, 7, 207, 104, 105, 29, 106, 45, 270, 271, 272, 273, 46, 187, 274, 275, 276, 4, 277, 6, 131, 278, 129, 134, 15, 16, 17, 18, 19, 20, 21, 22, 23, 24, 25, 26, 27, 28, 30, 31, 32, 33, 34, 35, 36, 37, 38, 39, 40, 41, 42, 43, 44, 47, 48, 49, 50, 51, 52, 53, 54, 55, 56, 57, 58, 59, 60, 61, 62, 63, 64, 65, 66, 67, 68, 69, 70, 71, 72, 73, 74, 75, 76, 77, 78, 79, 80, 81, 82, 83, 84, 85, 86, 87, 88, 89, 90, 91, 92, 93, 94, 95, 96, 97, 98, 99, 100, 101, 102, 103, 107, 108, 109, 110, 111, 112, 113, 114, 115, 116, 117, 118, 119, 120, 279, 280, 281, 282, 144, 159, 283, 284, 285, 186, 253, 286, 161, 162, 163, 164, 165, 166, 287, 288, 289, 290, 193, 194, 195, 196, 197, 198, 199, 291, 190, 191, 192, 340, 341, 342, 343, 344, 345, 346, 347, 348, 349, 350, 351, 352, 353, 354, 355, 362, 363, 364, 365, 366, 367, 368, 369, 370, 371, 372, 373, 356, 357, 358, 359, 360, 361, 374, 375, 376] (by decide +kernel) (by decide +kernel)
set_option maxRecDepth 20000 in
theorem gL_refuses_X5_gain : GoodIn wsL_refuses (wsV RL 79 RX5 yX5_gain wsX5_gain) := goodIn_app (goodIn_of _ (by decide +kernel)) ggL_refuses_X5_gain
set_option maxRecDepth 20000 in
theorem ggL_refuses_X5_complaint : GoodIn wsL_refuses wsX5_complaint := goodIn_r _ [295, 7, 207, 104, 105, 29, 106, 45, 270, 271, 272, 273, 46, 187, 296, 297, 298, 4, 299, 6, 131, 244, 15, 16, 17, 18, 19, 20, 21, 22, 23, 24, 25, 26, 27, 28, 30, 31, 32, 33, 34, 35, 36, 37, 38, 39, 40, 41, 42, 43, 44, 47, 48, 49, 50, 51, 52, 53, 54, 55, 56, 57, 58, 59, 60, 61, 62, 63, 64, 65, 66, 67, 68, 69, 70, 71, 72, 73, 74, 75, 76, 77, 78, 79, 80, 81, 82, 83, 84, 85, 86, 87, 88, 89, 90, 91, 92, 93, 94, 95, 96, 97, 98, 99, 100, 101, 102, 103, 107, 108, 109, 110, 111, 112, 113, 114, 115, 116, 117, 118, 119, 120, 300, 301, 302, 303, 274, 275, 276, 277, 278, 129, 134, 279, 280, 281, 282, 144, 159, 283, 284, 285, 186, 253, 286, 161, 162, 163, 164, 165, 166, 287, 288, 289, 290, 193, 194, 195, 196, 197, 198, 199, 291, 190, 191, 192, 340, 341, 342, 343, 344, 345, 346, 347, 348, 349, 350, 351, 352, 353, 354, 355, 362, 363, 364, 365, 366, 367, 368, 369, 370, 371, 372, 373, 356, 357, 358, 359, 360, 361, 374, 375, 376] (by decide +kernel) (by decide +kernel)
set_option maxRecDepth 20000 in
theorem gL_refuses_X5_complaint : GoodIn wsL_refuses (wsV RL 83 RX5 yX5_complaint wsX5_complaint) := goodIn_app (goodIn_of _ (by decide +kernel)) ggL_refuses_X5_complaint
set_option maxRecDepth 20000 in
theorem ggL_refuses_X5_willMiss : GoodIn wsL_refuses wsX5_willMiss := goodIn_r _ [307, 7, 278, 6, 129, 133, 207, 104, 105, 29, 106, 45, 148, 149, 4, 150, 279, 280, 281, 282, 144, 159, 283, 284, 285, 46, 186, 31, 253, 48, 286, 36, 161, 162, 163, 95, 164, 165, 166, 97, 287, 288, 289, 62, 290, 193, 194, 195, 66, 64, 65, 71, 72, 196, 197, 198, 199, 291, 190, 191, 192, 249, 250, 251, 252, 254, 255, 256, 16, 17, 18, 19, 20, 21, 22, 23, 24, 25, 26, 27, 28, 30, 32, 33, 34, 35, 37, 38, 39, 40, 41, 42, 43, 44, 47, 49, 50, 51, 52, 53, 54, 55, 56, 57, 58, 59, 60, 61, 63, 67, 68, 69, 70, 73, 74, 75, 76, 77, 78, 79, 80, 81, 82, 83, 84, 85, 86, 87, 88, 89, 90, 91, 92, 93, 94, 96, 98, 99, 100, 101, 102, 103, 107, 108, 109, 110, 111, 112, 113, 114, 115, 116, 117, 118, 119, 120, 257, 258, 122, 123, 124, 259, 260, 261, 262, 263, 264, 265, 340, 341, 342, 343, 344, 345, 346, 347, 348, 349, 350, 351, 352, 353, 354, 355, 362, 363, 364, 365, 366, 367, 368, 369, 370, 371, 372, 373, 374, 375, 376, 356, 357, 358, 359, 360, 361] (by decide +kernel) (by decide +kernel)
set_option maxRecDepth 20000 in
theorem gL_refuses_X5_willMiss : GoodIn wsL_refuses (wsV RL 99 RX5 yX5_willMiss wsX5_willMiss) := goodIn_app (goodIn_of _ (by decide +kernel)) ggL_refuses_X5_willMiss
set_option maxRecDepth 20000 in
theorem ggL_refuses_X5_append : GoodIn wsL_refuses wsX5_append := goodIn_r _ [311, 312, 313, 148, 149, 4, 150, 314, 315, 316, 317, 318, 319, 320, 321, 322, 323, 324, 325, 340, 341, 342, 343, 344, 345, 377, 378, 379, 380, 381] (by decide +kernel) (by decide +kernel)
set_option maxRecDepth 20000 in
theorem gL_refuses_X5_append : GoodIn wsL_refuses (wsV RL 102 RX5 yX5_append wsX5_append) := goodIn_app (goodIn_of _ (by decide +kernel)) ggL_refuses_X5_append
set_option maxRecDepth 20000 in
theorem ggL_refuses_X5_save : GoodIn wsL_refuses wsX5_save := goodIn_r _ [329, 330, 7, 331, 10, 148, 149, 4, 150, 279, 280, 281, 29, 282, 144, 159, 283, 284, 285, 45, 46, 186, 31, 253, 48, 286, 36, 161, 162, 163, 95, 164, 165, 166, 97, 287, 288, 289, 62, 290, 193, 194, 195, 66, 64, 65, 71, 72, 196, 197, 198, 199, 291, 190, 191, 192, 340, 341, 342, 343, 344, 345, 346, 347, 348, 349, 350, 351, 352, 353, 354, 355, 374, 375, 376, 362, 363, 364, 365, 366, 367, 368, 369, 370, 371, 372, 373] (by decide +kernel) (by decide +kernel)
set_option maxRecDepth 20000 in
theorem gL_refuses_X5_save : GoodIn wsL_refuses (wsV RL 73 RX5 yX5_save wsX5_save) := goodIn_app (goodIn_of _ (by decide +kernel)) ggL_refuses_X5_save
set_option maxRecDepth 20000 in
theorem ggL_refuses_X5_restore : GoodIn wsL_refuses wsX5_restore := goodIn_r _ [335, 331, 7, 330, 10, 148, 149, 4, 150, 279, 280, 281, 29, 282, 144, 159, 283, 284, 285, 45, 46, 186, 31, 253, 48, 286, 36, 161, 162, 163, 95, 164, 165, 166, 97, 287, 288, 289, 62, 290, 193, 194, 195, 66, 64, 65, 71, 72, 196, 197, 198, 199, 291, 190, 191, 192, 340, 341, 342, 343, 344, 345, 346, 347, 348, 349, 350, 351, 352, 353, 354, 355, 374, 375, 376, 362, 363, 364, 365, 366, 367, 368, 369, 370, 371, 372, 373] (by decide +kernel) (by decide +kernel)
set_option maxRecDepth 20000 in
theorem gL_refuses_X5_restore : GoodIn wsL_refuses (wsV RL 105 RX5 yX5_restore wsX5_restore) := goodIn_app (goodIn_of _ (by decide +kernel)) ggL_refuses_X5_restore
set_option maxRecDepth 20000 in
theorem ggL_refuses_X5_isShut : GoodIn wsL_refuses wsX5_isShut := goodIn_r _ [339, 7, 129, 134, 207, 104, 105, 29, 106, 45, 340, 341, 342, 343, 344, 345, 346, 347, 348, 349, 350, 351, 352, 353, 354, 355, 362, 363, 364, 365, 366, 367, 368, 369, 370, 371, 372, 373] (by decide +kernel) (by decide +kernel)
set_option maxRecDepth 20000 in
theorem gL_refuses_X5_isShut : GoodIn wsL_refuses (wsV RL 108 RX5 yX5_isShut wsX5_isShut) := goodIn_app (goodIn_of _ (by decide +kernel)) ggL_refuses_X5_isShut
theorem dL_refuses_0 : decode cL_refuses 0 = .ok (.aload_n 0, 1) := by decide +kernel
theorem dL_refuses_1 : decode cL_refuses 1 = .ok (.invokevirtual 86, 3) := by decide +kernel
theorem dL_refuses_4 : decode cL_refuses 4 = .ok (.lstore_n 2, 1) := by decide +kernel
theorem dL_refuses_5 : decode cL_refuses 5 = .ok (.aload_n 0, 1) := by decide +kernel
theorem dL_refuses_6 : decode cL_refuses 6 = .ok (.aload_n 1, 1) := by decide +kernel
theorem dL_refuses_7 : decode cL_refuses 7 = .ok (.iconst 0, 1) := by decide +kernel
theorem dL_refuses_8 : decode cL_refuses 8 = .ok (.iaload, 1) := by decide +kernel
theorem dL_refuses_9 : decode cL_refuses 9 = .ok (.iconst 1, 1) := by decide +kernel
theorem dL_refuses_10 : decode cL_refuses 10 = .ok (.iconst 0, 1) := by decide +kernel
theorem dL_refuses_11 : decode cL_refuses 11 = .ok (.invokevirtual 28, 3) := by decide +kernel
theorem dL_refuses_14 : decode cL_refuses 14 = .ok (.bipush (-101), 2) := by decide +kernel
theorem dL_refuses_16 : decode cL_refuses 16 = .ok (.if_icmp .ne 76, 3) := by decide +kernel
theorem dL_refuses_19 : decode cL_refuses 19 = .ok (.aload_n 0, 1) := by decide +kernel
theorem dL_refuses_20 : decode cL_refuses 20 = .ok (.iconst 0, 1) := by decide +kernel
theorem dL_refuses_21 : decode cL_refuses 21 = .ok (.sipush 201, 3) := by decide +kernel
theorem dL_refuses_24 : decode cL_refuses 24 = .ok (.iconst 0, 1) := by decide +kernel
theorem dL_refuses_25 : decode cL_refuses 25 = .ok (.invokevirtual 28, 3) := by decide +kernel
theorem dL_refuses_28 : decode cL_refuses 28 = .ok (.bipush (-102), 2) := by decide +kernel
theorem dL_refuses_30 : decode cL_refuses 30 = .ok (.if_icmp .ne 62, 3) := by decide +kernel
theorem dL_refuses_33 : decode cL_refuses 33 = .ok (.aload_n 0, 1) := by decide +kernel
theorem dL_refuses_34 : decode cL_refuses 34 = .ok (.iconst 0, 1) := by decide +kernel
theorem dL_refuses_35 : decode cL_refuses 35 = .ok (.iconst 1, 1) := by decide +kernel
theorem dL_refuses_36 : decode cL_refuses 36 = .ok (.bipush 51, 2) := by decide +kernel
theorem dL_refuses_38 : decode cL_refuses 38 = .ok (.invokevirtual 15, 3) := by decide +kernel
theorem dL_refuses_41 : decode cL_refuses 41 = .ok (.bipush (-102), 2) := by decide +kernel
theorem dL_refuses_43 : decode cL_refuses 43 = .ok (.if_icmp .ne 49, 3) := by decide +kernel
theorem dL_refuses_46 : decode cL_refuses 46 = .ok (.aload_n 0, 1) := by decide +kernel
theorem dL_refuses_47 : decode cL_refuses 47 = .ok (.iconst (-1), 1) := by decide +kernel
theorem dL_refuses_48 : decode cL_refuses 48 = .ok (.sipush 1900, 3) := by decide +kernel
theorem dL_refuses_51 : decode cL_refuses 51 = .ok (.iconst 1, 1) := by decide +kernel
theorem dL_refuses_52 : decode cL_refuses 52 = .ok (.invokevirtual 31, 3) := by decide +kernel
theorem dL_refuses_55 : decode cL_refuses 55 = .ok (.bipush (-101), 2) := by decide +kernel
theorem dL_refuses_57 : decode cL_refuses 57 = .ok (.if_icmp .ne 35, 3) := by decide +kernel
theorem dL_refuses_60 : decode cL_refuses 60 = .ok (.aload_n 0, 1) := by decide +kernel
theorem dL_refuses_61 : decode cL_refuses 61 = .ok (.iconst 0, 1) := by decide +kernel
theorem dL_refuses_62 : decode cL_refuses 62 = .ok (.sipush 1799, 3) := by decide +kernel
theorem dL_refuses_65 : decode cL_refuses 65 = .ok (.iconst 1, 1) := by decide +kernel
theorem dL_refuses_66 : decode cL_refuses 66 = .ok (.invokevirtual 31, 3) := by decide +kernel
theorem dL_refuses_69 : decode cL_refuses 69 = .ok (.bipush (-102), 2) := by decide +kernel
theorem dL_refuses_71 : decode cL_refuses 71 = .ok (.if_icmp .ne 21, 3) := by decide +kernel
theorem dL_refuses_74 : decode cL_refuses 74 = .ok (.aload_n 0, 1) := by decide +kernel
theorem dL_refuses_75 : decode cL_refuses 75 = .ok (.iconst 0, 1) := by decide +kernel
theorem dL_refuses_76 : decode cL_refuses 76 = .ok (.bipush 61, 2) := by decide +kernel
theorem dL_refuses_78 : decode cL_refuses 78 = .ok (.iconst 0, 1) := by decide +kernel
theorem dL_refuses_79 : decode cL_refuses 79 = .ok (.iconst 1, 1) := by decide +kernel
theorem dL_refuses_80 : decode cL_refuses 80 = .ok (.invokevirtual 34, 3) := by decide +kernel
theorem dL_refuses_83 : decode cL_refuses 83 = .ok (.bipush (-102), 2) := by decide +kernel
theorem dL_refuses_85 : decode cL_refuses 85 = .ok (.if_icmp .ne 7, 3) := by decide +kernel
theorem dL_refuses_88 : decode cL_refuses 88 = .ok (.iconst 1, 1) := by decide +kernel
theorem dL_refuses_89 : decode cL_refuses 89 = .ok (.goto 4, 3) := by decide +kernel
theorem dL_refuses_92 : decode cL_refuses 92 = .ok (.iconst 0, 1) := by decide +kernel
theorem dL_refuses_93 : decode cL_refuses 93 = .ok (.istore 4, 2) := by decide +kernel
theorem dL_refuses_95 : decode cL_refuses 95 = .ok (.iload 4, 2) := by decide +kernel
theorem dL_refuses_97 : decode cL_refuses 97 = .ok (.ifCond .eq 89, 3) := by decide +kernel
theorem dL_refuses_100 : decode cL_refuses 100 = .ok (.aload_n 0, 1) := by decide +kernel
theorem dL_refuses_101 : decode cL_refuses 101 = .ok (.iconst 0, 1) := by decide +kernel
theorem dL_refuses_102 : decode cL_refuses 102 = .ok (.iconst 1, 1) := by decide +kernel
theorem dL_refuses_103 : decode cL_refuses 103 = .ok (.iconst 5, 1) := by decide +kernel
theorem dL_refuses_104 : decode cL_refuses 104 = .ok (.iconst 5, 1) := by decide +kernel
theorem dL_refuses_105 : decode cL_refuses 105 = .ok (.invokevirtual 34, 3) := by decide +kernel
theorem dL_refuses_108 : decode cL_refuses 108 = .ok (.bipush (-102), 2) := by decide +kernel
theorem dL_refuses_110 : decode cL_refuses 110 = .ok (.if_icmp .ne 76, 3) := by decide +kernel
theorem dL_refuses_113 : decode cL_refuses 113 = .ok (.aload_n 0, 1) := by decide +kernel
theorem dL_refuses_114 : decode cL_refuses 114 = .ok (.iconst 0, 1) := by decide +kernel
theorem dL_refuses_115 : decode cL_refuses 115 = .ok (.sipush 501, 3) := by decide +kernel
theorem dL_refuses_118 : decode cL_refuses 118 = .ok (.iconst 0, 1) := by decide +kernel
theorem dL_refuses_119 : decode cL_refuses 119 = .ok (.invokevirtual 38, 3) := by decide +kernel
theorem dL_refuses_122 : decode cL_refuses 122 = .ok (.bipush (-102), 2) := by decide +kernel
theorem dL_refuses_124 : decode cL_refuses 124 = .ok (.if_icmp .ne 62, 3) := by decide +kernel
theorem dL_refuses_127 : decode cL_refuses 127 = .ok (.aload_n 0, 1) := by decide +kernel
theorem dL_refuses_128 : decode cL_refuses 128 = .ok (.iconst 0, 1) := by decide +kernel
theorem dL_refuses_129 : decode cL_refuses 129 = .ok (.bipush 25, 2) := by decide +kernel
theorem dL_refuses_131 : decode cL_refuses 131 = .ok (.invokevirtual 90, 3) := by decide +kernel
theorem dL_refuses_134 : decode cL_refuses 134 = .ok (.bipush (-102), 2) := by decide +kernel
theorem dL_refuses_136 : decode cL_refuses 136 = .ok (.if_icmp .ne 50, 3) := by decide +kernel
theorem dL_refuses_139 : decode cL_refuses 139 = .ok (.aload_n 0, 1) := by decide +kernel
theorem dL_refuses_140 : decode cL_refuses 140 = .ok (.iconst 3, 1) := by decide +kernel
theorem dL_refuses_141 : decode cL_refuses 141 = .ok (.iconst 3, 1) := by decide +kernel
theorem dL_refuses_142 : decode cL_refuses 142 = .ok (.iconst 1, 1) := by decide +kernel
theorem dL_refuses_143 : decode cL_refuses 143 = .ok (.invokevirtual 21, 3) := by decide +kernel
theorem dL_refuses_146 : decode cL_refuses 146 = .ok (.bipush (-102), 2) := by decide +kernel
theorem dL_refuses_148 : decode cL_refuses 148 = .ok (.if_icmp .ne 38, 3) := by decide +kernel
theorem dL_refuses_151 : decode cL_refuses 151 = .ok (.aload_n 0, 1) := by decide +kernel
theorem dL_refuses_152 : decode cL_refuses 152 = .ok (.iconst 3, 1) := by decide +kernel
theorem dL_refuses_153 : decode cL_refuses 153 = .ok (.invokevirtual 24, 3) := by decide +kernel
theorem dL_refuses_156 : decode cL_refuses 156 = .ok (.bipush (-102), 2) := by decide +kernel
theorem dL_refuses_158 : decode cL_refuses 158 = .ok (.if_icmp .ne 28, 3) := by decide +kernel
theorem dL_refuses_161 : decode cL_refuses 161 = .ok (.aload_n 0, 1) := by decide +kernel
theorem dL_refuses_162 : decode cL_refuses 162 = .ok (.bipush 101, 2) := by decide +kernel
theorem dL_refuses_164 : decode cL_refuses 164 = .ok (.invokevirtual 93, 3) := by decide +kernel
theorem dL_refuses_167 : decode cL_refuses 167 = .ok (.bipush (-102), 2) := by decide +kernel
theorem dL_refuses_169 : decode cL_refuses 169 = .ok (.if_icmp .ne 17, 3) := by decide +kernel
theorem dL_refuses_172 : decode cL_refuses 172 = .ok (.aload_n 0, 1) := by decide +kernel
theorem dL_refuses_173 : decode cL_refuses 173 = .ok (.iconst 0, 1) := by decide +kernel
theorem dL_refuses_174 : decode cL_refuses 174 = .ok (.invokevirtual 96, 3) := by decide +kernel
theorem dL_refuses_177 : decode cL_refuses 177 = .ok (.bipush (-102), 2) := by decide +kernel
theorem dL_refuses_179 : decode cL_refuses 179 = .ok (.if_icmp .ne 7, 3) := by decide +kernel
theorem dL_refuses_182 : decode cL_refuses 182 = .ok (.iconst 1, 1) := by decide +kernel
theorem dL_refuses_183 : decode cL_refuses 183 = .ok (.goto 4, 3) := by decide +kernel
theorem dL_refuses_186 : decode cL_refuses 186 = .ok (.iconst 0, 1) := by decide +kernel
theorem dL_refuses_187 : decode cL_refuses 187 = .ok (.istore 4, 2) := by decide +kernel
theorem dL_refuses_189 : decode cL_refuses 189 = .ok (.iload 4, 2) := by decide +kernel
theorem dL_refuses_191 : decode cL_refuses 191 = .ok (.ifCond .eq 84, 3) := by decide +kernel
theorem dL_refuses_194 : decode cL_refuses 194 = .ok (.aload_n 0, 1) := by decide +kernel
theorem dL_refuses_195 : decode cL_refuses 195 = .ok (.iconst 0, 1) := by decide +kernel
theorem dL_refuses_196 : decode cL_refuses 196 = .ok (.aload_n 1, 1) := by decide +kernel
theorem dL_refuses_197 : decode cL_refuses 197 = .ok (.iconst 1, 1) := by decide +kernel
theorem dL_refuses_198 : decode cL_refuses 198 = .ok (.iaload, 1) := by decide +kernel
theorem dL_refuses_199 : decode cL_refuses 199 = .ok (.invokevirtual 79, 3) := by decide +kernel
theorem dL_refuses_202 : decode cL_refuses 202 = .ok (.bipush (-101), 2) := by decide +kernel
theorem dL_refuses_204 : decode cL_refuses 204 = .ok (.if_icmp .ne 71, 3) := by decide +kernel
theorem dL_refuses_207 : decode cL_refuses 207 = .ok (.aload_n 0, 1) := by decide +kernel
theorem dL_refuses_208 : decode cL_refuses 208 = .ok (.iconst 0, 1) := by decide +kernel
theorem dL_refuses_209 : decode cL_refuses 209 = .ok (.iconst 0, 1) := by decide +kernel
theorem dL_refuses_210 : decode cL_refuses 210 = .ok (.invokevirtual 83, 3) := by decide +kernel
theorem dL_refuses_213 : decode cL_refuses 213 = .ok (.bipush (-103), 2) := by decide +kernel
theorem dL_refuses_215 : decode cL_refuses 215 = .ok (.if_icmp .ne 60, 3) := by decide +kernel
theorem dL_refuses_218 : decode cL_refuses 218 = .ok (.aload_n 0, 1) := by decide +kernel
theorem dL_refuses_219 : decode cL_refuses 219 = .ok (.iconst 0, 1) := by decide +kernel
theorem dL_refuses_220 : decode cL_refuses 220 = .ok (.iconst 0, 1) := by decide +kernel
theorem dL_refuses_221 : decode cL_refuses 221 = .ok (.invokevirtual 99, 3) := by decide +kernel
theorem dL_refuses_224 : decode cL_refuses 224 = .ok (.bipush (-102), 2) := by decide +kernel
theorem dL_refuses_226 : decode cL_refuses 226 = .ok (.if_icmp .ne 49, 3) := by decide +kernel
theorem dL_refuses_229 : decode cL_refuses 229 = .ok (.aload_n 0, 1) := by decide +kernel
theorem dL_refuses_230 : decode cL_refuses 230 = .ok (.sipush 128, 3) := by decide +kernel
theorem dL_refuses_233 : decode cL_refuses 233 = .ok (.invokevirtual 102, 3) := by decide +kernel
theorem dL_refuses_236 : decode cL_refuses 236 = .ok (.bipush (-102), 2) := by decide +kernel
theorem dL_refuses_238 : decode cL_refuses 238 = .ok (.if_icmp .ne 37, 3) := by decide +kernel
theorem dL_refuses_241 : decode cL_refuses 241 = .ok (.aload_n 0, 1) := by decide +kernel
theorem dL_refuses_242 : decode cL_refuses 242 = .ok (.iconst 2, 1) := by decide +kernel
theorem dL_refuses_243 : decode cL_refuses 243 = .ok (.invokevirtual 73, 3) := by decide +kernel
theorem dL_refuses_246 : decode cL_refuses 246 = .ok (.bipush (-101), 2) := by decide +kernel
theorem dL_refuses_248 : decode cL_refuses 248 = .ok (.if_icmp .ne 27, 3) := by decide +kernel
theorem dL_refuses_251 : decode cL_refuses 251 = .ok (.aload_n 0, 1) := by decide +kernel
theorem dL_refuses_252 : decode cL_refuses 252 = .ok (.iconst 2, 1) := by decide +kernel
theorem dL_refuses_253 : decode cL_refuses 253 = .ok (.invokevirtual 105, 3) := by decide +kernel
theorem dL_refuses_256 : decode cL_refuses 256 = .ok (.bipush (-101), 2) := by decide +kernel
theorem dL_refuses_258 : decode cL_refuses 258 = .ok (.if_icmp .ne 17, 3) := by decide +kernel
theorem dL_refuses_261 : decode cL_refuses 261 = .ok (.aload_n 0, 1) := by decide +kernel
theorem dL_refuses_262 : decode cL_refuses 262 = .ok (.iconst (-1), 1) := by decide +kernel
theorem dL_refuses_263 : decode cL_refuses 263 = .ok (.invokevirtual 108, 3) := by decide +kernel
theorem dL_refuses_266 : decode cL_refuses 266 = .ok (.bipush (-101), 2) := by decide +kernel
theorem dL_refuses_268 : decode cL_refuses 268 = .ok (.if_icmp .ne 7, 3) := by decide +kernel
theorem dL_refuses_271 : decode cL_refuses 271 = .ok (.iconst 1, 1) := by decide +kernel
theorem dL_refuses_272 : decode cL_refuses 272 = .ok (.goto 4, 3) := by decide +kernel
theorem dL_refuses_275 : decode cL_refuses 275 = .ok (.iconst 0, 1) := by decide +kernel
theorem dL_refuses_276 : decode cL_refuses 276 = .ok (.istore 4, 2) := by decide +kernel
theorem dL_refuses_278 : decode cL_refuses 278 = .ok (.iload 4, 2) := by decide +kernel
theorem dL_refuses_280 : decode cL_refuses 280 = .ok (.ifCond .eq 16, 3) := by decide +kernel
theorem dL_refuses_283 : decode cL_refuses 283 = .ok (.aload_n 0, 1) := by decide +kernel
theorem dL_refuses_284 : decode cL_refuses 284 = .ok (.invokevirtual 86, 3) := by decide +kernel
theorem dL_refuses_287 : decode cL_refuses 287 = .ok (.lload_n 2, 1) := by decide +kernel
theorem dL_refuses_288 : decode cL_refuses 288 = .ok (.lcmp, 1) := by decide +kernel
theorem dL_refuses_289 : decode cL_refuses 289 = .ok (.ifCond .ne 7, 3) := by decide +kernel
theorem dL_refuses_292 : decode cL_refuses 292 = .ok (.iconst 1, 1) := by decide +kernel
theorem dL_refuses_293 : decode cL_refuses 293 = .ok (.goto 4, 3) := by decide +kernel
theorem dL_refuses_296 : decode cL_refuses 296 = .ok (.iconst 0, 1) := by decide +kernel
theorem dL_refuses_297 : decode cL_refuses 297 = .ok (.ireturn, 1) := by decide +kernel
theorem dL_law_0 : decode cL_law 0 = .ok (.new 16, 3) := by decide +kernel
theorem dL_law_3 : decode cL_law 3 = .ok (.dup, 1) := by decide +kernel
theorem dL_law_4 : decode cL_law 4 = .ok (.invokespecial 111, 3) := by decide +kernel
theorem dL_law_7 : decode cL_law 7 = .ok (.astore_n 1, 1) := by decide +kernel
theorem dL_law_8 : decode cL_law 8 = .ok (.bipush 32, 2) := by decide +kernel
theorem dL_law_10 : decode cL_law 10 = .ok (.newarray .int, 2) := by decide +kernel
theorem dL_law_12 : decode cL_law 12 = .ok (.astore_n 2, 1) := by decide +kernel
theorem dL_law_13 : decode cL_law 13 = .ok (.bipush 64, 2) := by decide +kernel
theorem dL_law_15 : decode cL_law 15 = .ok (.newarray .int, 2) := by decide +kernel
theorem dL_law_17 : decode cL_law 17 = .ok (.astore_n 3, 1) := by decide +kernel
theorem dL_law_18 : decode cL_law 18 = .ok (.iconst 4, 1) := by decide +kernel
theorem dL_law_19 : decode cL_law 19 = .ok (.newarray .int, 2) := by decide +kernel
theorem dL_law_21 : decode cL_law 21 = .ok (.astore 4, 2) := by decide +kernel
theorem dL_law_23 : decode cL_law 23 = .ok (.aload_n 1, 1) := by decide +kernel
theorem dL_law_24 : decode cL_law 24 = .ok (.iconst 1, 1) := by decide +kernel
theorem dL_law_25 : decode cL_law 25 = .ok (.invokevirtual 105, 3) := by decide +kernel
theorem dL_law_28 : decode cL_law 28 = .ok (.bipush (-103), 2) := by decide +kernel
theorem dL_law_30 : decode cL_law 30 = .ok (.if_icmp .ne 58, 3) := by decide +kernel
theorem dL_law_33 : decode cL_law 33 = .ok (.aload_n 1, 1) := by decide +kernel
theorem dL_law_34 : decode cL_law 34 = .ok (.invokevirtual 112, 3) := by decide +kernel
theorem dL_law_37 : decode cL_law 37 = .ok (.bipush (-105), 2) := by decide +kernel
theorem dL_law_39 : decode cL_law 39 = .ok (.if_icmp .ne 49, 3) := by decide +kernel
theorem dL_law_42 : decode cL_law 42 = .ok (.aload_n 1, 1) := by decide +kernel
theorem dL_law_43 : decode cL_law 43 = .ok (.aload_n 0, 1) := by decide +kernel
theorem dL_law_44 : decode cL_law 44 = .ok (.iconst 0, 1) := by decide +kernel
theorem dL_law_45 : decode cL_law 45 = .ok (.aload_n 2, 1) := by decide +kernel
theorem dL_law_46 : decode cL_law 46 = .ok (.aload_n 3, 1) := by decide +kernel
theorem dL_law_47 : decode cL_law 47 = .ok (.aload 4, 2) := by decide +kernel
theorem dL_law_49 : decode cL_law 49 = .ok (.invokestatic 115, 3) := by decide +kernel
theorem dL_law_52 : decode cL_law 52 = .ok (.ifCond .eq 36, 3) := by decide +kernel
theorem dL_law_55 : decode cL_law 55 = .ok (.aload_n 1, 1) := by decide +kernel
theorem dL_law_56 : decode cL_law 56 = .ok (.aload_n 2, 1) := by decide +kernel
theorem dL_law_57 : decode cL_law 57 = .ok (.aload_n 3, 1) := by decide +kernel
theorem dL_law_58 : decode cL_law 58 = .ok (.aload 4, 2) := by decide +kernel
theorem dL_law_60 : decode cL_law 60 = .ok (.invokestatic 119, 3) := by decide +kernel
theorem dL_law_63 : decode cL_law 63 = .ok (.ifCond .eq 25, 3) := by decide +kernel
theorem dL_law_66 : decode cL_law 66 = .ok (.aload_n 1, 1) := by decide +kernel
theorem dL_law_67 : decode cL_law 67 = .ok (.aload 4, 2) := by decide +kernel
theorem dL_law_69 : decode cL_law 69 = .ok (.invokestatic 123, 3) := by decide +kernel
theorem dL_law_72 : decode cL_law 72 = .ok (.ifCond .eq 16, 3) := by decide +kernel
theorem dL_law_75 : decode cL_law 75 = .ok (.aload_n 1, 1) := by decide +kernel
theorem dL_law_76 : decode cL_law 76 = .ok (.aload 4, 2) := by decide +kernel
theorem dL_law_78 : decode cL_law 78 = .ok (.invokestatic 127, 3) := by decide +kernel
theorem dL_law_81 : decode cL_law 81 = .ok (.ifCond .eq 7, 3) := by decide +kernel
theorem dL_law_84 : decode cL_law 84 = .ok (.iconst 1, 1) := by decide +kernel
theorem dL_law_85 : decode cL_law 85 = .ok (.goto 4, 3) := by decide +kernel
theorem dL_law_88 : decode cL_law 88 = .ok (.iconst 0, 1) := by decide +kernel
theorem dL_law_89 : decode cL_law 89 = .ok (.istore 5, 2) := by decide +kernel
theorem dL_law_91 : decode cL_law 91 = .ok (.aload_n 0, 1) := by decide +kernel
theorem dL_law_92 : decode cL_law 92 = .ok (.bipush 11, 2) := by decide +kernel
theorem dL_law_94 : decode cL_law 94 = .ok (.invokestatic 9, 3) := by decide +kernel
theorem dL_law_97 : decode cL_law 97 = .ok (.istore 6, 2) := by decide +kernel
theorem dL_law_99 : decode cL_law 99 = .ok (.iconst 0, 1) := by decide +kernel
theorem dL_law_100 : decode cL_law 100 = .ok (.istore 7, 2) := by decide +kernel
theorem dL_law_102 : decode cL_law 102 = .ok (.iconst 0, 1) := by decide +kernel
theorem dL_law_103 : decode cL_law 103 = .ok (.istore 8, 2) := by decide +kernel
theorem dL_law_105 : decode cL_law 105 = .ok (.iload 8, 2) := by decide +kernel
theorem dL_law_107 : decode cL_law 107 = .ok (.aload 4, 2) := by decide +kernel
theorem dL_law_109 : decode cL_law 109 = .ok (.iconst 1, 1) := by decide +kernel
theorem dL_law_110 : decode cL_law 110 = .ok (.iaload, 1) := by decide +kernel
theorem dL_law_111 : decode cL_law 111 = .ok (.if_icmp .ge 50, 3) := by decide +kernel
theorem dL_law_114 : decode cL_law 114 = .ok (.iload 5, 2) := by decide +kernel
theorem dL_law_116 : decode cL_law 116 = .ok (.ifCond .eq 45, 3) := by decide +kernel
theorem dL_law_119 : decode cL_law 119 = .ok (.iload 6, 2) := by decide +kernel
theorem dL_law_121 : decode cL_law 121 = .ok (.iconst 2, 1) := by decide +kernel
theorem dL_law_122 : decode cL_law 122 = .ok (.iload 8, 2) := by decide +kernel
theorem dL_law_124 : decode cL_law 124 = .ok (.imul, 1) := by decide +kernel
theorem dL_law_125 : decode cL_law 125 = .ok (.ishr, 1) := by decide +kernel
theorem dL_law_126 : decode cL_law 126 = .ok (.iconst 4, 1) := by decide +kernel
theorem dL_law_127 : decode cL_law 127 = .ok (.irem, 1) := by decide +kernel
theorem dL_law_128 : decode cL_law 128 = .ok (.istore 9, 2) := by decide +kernel
theorem dL_law_130 : decode cL_law 130 = .ok (.iload 7, 2) := by decide +kernel
theorem dL_law_132 : decode cL_law 132 = .ok (.iload 9, 2) := by decide +kernel
theorem dL_law_134 : decode cL_law 134 = .ok (.iadd, 1) := by decide +kernel
theorem dL_law_135 : decode cL_law 135 = .ok (.istore 7, 2) := by decide +kernel
theorem dL_law_137 : decode cL_law 137 = .ok (.aload_n 1, 1) := by decide +kernel
theorem dL_law_138 : decode cL_law 138 = .ok (.iload 8, 2) := by decide +kernel
theorem dL_law_140 : decode cL_law 140 = .ok (.iload 9, 2) := by decide +kernel
theorem dL_law_142 : decode cL_law 142 = .ok (.invokevirtual 90, 3) := by decide +kernel
theorem dL_law_145 : decode cL_law 145 = .ok (.ifCond .ne 7, 3) := by decide +kernel
theorem dL_law_148 : decode cL_law 148 = .ok (.iconst 1, 1) := by decide +kernel
theorem dL_law_149 : decode cL_law 149 = .ok (.goto 4, 3) := by decide +kernel
theorem dL_law_152 : decode cL_law 152 = .ok (.iconst 0, 1) := by decide +kernel
theorem dL_law_153 : decode cL_law 153 = .ok (.istore 5, 2) := by decide +kernel
theorem dL_law_155 : decode cL_law 155 = .ok (.iinc 8 1, 3) := by decide +kernel
theorem dL_law_158 : decode cL_law 158 = .ok (.goto (-53), 3) := by decide +kernel
theorem dL_law_161 : decode cL_law 161 = .ok (.aload_n 1, 1) := by decide +kernel
theorem dL_law_162 : decode cL_law 162 = .ok (.iconst 1, 1) := by decide +kernel
theorem dL_law_163 : decode cL_law 163 = .ok (.invokevirtual 24, 3) := by decide +kernel
theorem dL_law_166 : decode cL_law 166 = .ok (.istore 8, 2) := by decide +kernel
theorem dL_law_168 : decode cL_law 168 = .ok (.iconst (-1), 1) := by decide +kernel
theorem dL_law_169 : decode cL_law 169 = .ok (.istore 9, 2) := by decide +kernel
theorem dL_law_171 : decode cL_law 171 = .ok (.iconst 0, 1) := by decide +kernel
theorem dL_law_172 : decode cL_law 172 = .ok (.istore 10, 2) := by decide +kernel
theorem dL_law_174 : decode cL_law 174 = .ok (.iload 10, 2) := by decide +kernel
theorem dL_law_176 : decode cL_law 176 = .ok (.bipush 8, 2) := by decide +kernel
theorem dL_law_178 : decode cL_law 178 = .ok (.if_icmp .ge 111, 3) := by decide +kernel
theorem dL_law_181 : decode cL_law 181 = .ok (.iload 5, 2) := by decide +kernel
theorem dL_law_183 : decode cL_law 183 = .ok (.ifCond .eq 106, 3) := by decide +kernel
theorem dL_law_186 : decode cL_law 186 = .ok (.aload_n 1, 1) := by decide +kernel
theorem dL_law_187 : decode cL_law 187 = .ok (.invokevirtual 112, 3) := by decide +kernel
theorem dL_law_190 : decode cL_law 190 = .ok (.istore 11, 2) := by decide +kernel
theorem dL_law_192 : decode cL_law 192 = .ok (.aload_n 1, 1) := by decide +kernel
theorem dL_law_193 : decode cL_law 193 = .ok (.aload_n 2, 1) := by decide +kernel
theorem dL_law_194 : decode cL_law 194 = .ok (.aload_n 3, 1) := by decide +kernel
theorem dL_law_195 : decode cL_law 195 = .ok (.aload 4, 2) := by decide +kernel
theorem dL_law_197 : decode cL_law 197 = .ok (.invokestatic 119, 3) := by decide +kernel
theorem dL_law_200 : decode cL_law 200 = .ok (.ifCond .eq 76, 3) := by decide +kernel
theorem dL_law_203 : decode cL_law 203 = .ok (.iload 7, 2) := by decide +kernel
theorem dL_law_205 : decode cL_law 205 = .ok (.ifCond .ne 13, 3) := by decide +kernel
theorem dL_law_208 : decode cL_law 208 = .ok (.iload 11, 2) := by decide +kernel
theorem dL_law_210 : decode cL_law 210 = .ok (.bipush (-105), 2) := by decide +kernel
theorem dL_law_212 : decode cL_law 212 = .ok (.if_icmp .ne 64, 3) := by decide +kernel
theorem dL_law_215 : decode cL_law 215 = .ok (.goto 17, 3) := by decide +kernel
theorem dL_law_218 : decode cL_law 218 = .ok (.iload 11, 2) := by decide +kernel
theorem dL_law_220 : decode cL_law 220 = .ok (.ifCond .lt 56, 3) := by decide +kernel
theorem dL_law_223 : decode cL_law 223 = .ok (.iload 11, 2) := by decide +kernel
theorem dL_law_225 : decode cL_law 225 = .ok (.aload 4, 2) := by decide +kernel
theorem dL_law_227 : decode cL_law 227 = .ok (.iconst 1, 1) := by decide +kernel
theorem dL_law_228 : decode cL_law 228 = .ok (.iaload, 1) := by decide +kernel
theorem dL_law_229 : decode cL_law 229 = .ok (.if_icmp .ge 47, 3) := by decide +kernel
theorem dL_law_232 : decode cL_law 232 = .ok (.iload 7, 2) := by decide +kernel
theorem dL_law_234 : decode cL_law 234 = .ok (.ifCond .eq 19, 3) := by decide +kernel
theorem dL_law_237 : decode cL_law 237 = .ok (.aload_n 1, 1) := by decide +kernel
theorem dL_law_238 : decode cL_law 238 = .ok (.invokevirtual 76, 3) := by decide +kernel
theorem dL_law_241 : decode cL_law 241 = .ok (.iload 7, 2) := by decide +kernel
theorem dL_law_243 : decode cL_law 243 = .ok (.if_icmp .ge 10, 3) := by decide +kernel
theorem dL_law_246 : decode cL_law 246 = .ok (.iload 11, 2) := by decide +kernel
theorem dL_law_248 : decode cL_law 248 = .ok (.iload 9, 2) := by decide +kernel
theorem dL_law_250 : decode cL_law 250 = .ok (.if_icmp .lt 26, 3) := by decide +kernel
theorem dL_law_253 : decode cL_law 253 = .ok (.aload_n 1, 1) := by decide +kernel
theorem dL_law_254 : decode cL_law 254 = .ok (.iconst 1, 1) := by decide +kernel
theorem dL_law_255 : decode cL_law 255 = .ok (.invokevirtual 96, 3) := by decide +kernel
theorem dL_law_258 : decode cL_law 258 = .ok (.ifCond .lt 18, 3) := by decide +kernel
theorem dL_law_261 : decode cL_law 261 = .ok (.aload_n 1, 1) := by decide +kernel
theorem dL_law_262 : decode cL_law 262 = .ok (.invokevirtual 76, 3) := by decide +kernel
theorem dL_law_265 : decode cL_law 265 = .ok (.iload 10, 2) := by decide +kernel
theorem dL_law_267 : decode cL_law 267 = .ok (.iconst 1, 1) := by decide +kernel
theorem dL_law_268 : decode cL_law 268 = .ok (.iadd, 1) := by decide +kernel
theorem dL_law_269 : decode cL_law 269 = .ok (.if_icmp .ne 7, 3) := by decide +kernel
theorem dL_law_272 : decode cL_law 272 = .ok (.iconst 1, 1) := by decide +kernel
theorem dL_law_273 : decode cL_law 273 = .ok (.goto 4, 3) := by decide +kernel
theorem dL_law_276 : decode cL_law 276 = .ok (.iconst 0, 1) := by decide +kernel
theorem dL_law_277 : decode cL_law 277 = .ok (.istore 5, 2) := by decide +kernel
theorem dL_law_279 : decode cL_law 279 = .ok (.iload 11, 2) := by decide +kernel
theorem dL_law_281 : decode cL_law 281 = .ok (.istore 9, 2) := by decide +kernel
theorem dL_law_283 : decode cL_law 283 = .ok (.iinc 10 1, 3) := by decide +kernel
theorem dL_law_286 : decode cL_law 286 = .ok (.goto (-112), 3) := by decide +kernel
theorem dL_law_289 : decode cL_law 289 = .ok (.iload 5, 2) := by decide +kernel
theorem dL_law_291 : decode cL_law 291 = .ok (.ifCond .eq 43, 3) := by decide +kernel
theorem dL_law_294 : decode cL_law 294 = .ok (.aload_n 1, 1) := by decide +kernel
theorem dL_law_295 : decode cL_law 295 = .ok (.iconst 2, 1) := by decide +kernel
theorem dL_law_296 : decode cL_law 296 = .ok (.invokevirtual 24, 3) := by decide +kernel
theorem dL_law_299 : decode cL_law 299 = .ok (.iconst 1, 1) := by decide +kernel
theorem dL_law_300 : decode cL_law 300 = .ok (.if_icmp .ne 34, 3) := by decide +kernel
theorem dL_law_303 : decode cL_law 303 = .ok (.aload_n 1, 1) := by decide +kernel
theorem dL_law_304 : decode cL_law 304 = .ok (.aload_n 2, 1) := by decide +kernel
theorem dL_law_305 : decode cL_law 305 = .ok (.aload_n 3, 1) := by decide +kernel
theorem dL_law_306 : decode cL_law 306 = .ok (.aload 4, 2) := by decide +kernel
theorem dL_law_308 : decode cL_law 308 = .ok (.invokestatic 119, 3) := by decide +kernel
theorem dL_law_311 : decode cL_law 311 = .ok (.ifCond .eq 23, 3) := by decide +kernel
theorem dL_law_314 : decode cL_law 314 = .ok (.aload_n 1, 1) := by decide +kernel
theorem dL_law_315 : decode cL_law 315 = .ok (.invokevirtual 130, 3) := by decide +kernel
theorem dL_law_318 : decode cL_law 318 = .ok (.ifCond .lt 16, 3) := by decide +kernel
theorem dL_law_321 : decode cL_law 321 = .ok (.iload 8, 2) := by decide +kernel
theorem dL_law_323 : decode cL_law 323 = .ok (.aload 4, 2) := by decide +kernel
theorem dL_law_325 : decode cL_law 325 = .ok (.iconst 3, 1) := by decide +kernel
theorem dL_law_326 : decode cL_law 326 = .ok (.iaload, 1) := by decide +kernel
theorem dL_law_327 : decode cL_law 327 = .ok (.if_icmp .ne 7, 3) := by decide +kernel
theorem dL_law_330 : decode cL_law 330 = .ok (.iconst 1, 1) := by decide +kernel
theorem dL_law_331 : decode cL_law 331 = .ok (.goto 4, 3) := by decide +kernel
theorem dL_law_334 : decode cL_law 334 = .ok (.iconst 0, 1) := by decide +kernel
theorem dL_law_335 : decode cL_law 335 = .ok (.istore 5, 2) := by decide +kernel
theorem dL_law_337 : decode cL_law 337 = .ok (.aload_n 1, 1) := by decide +kernel
theorem dL_law_338 : decode cL_law 338 = .ok (.invokevirtual 86, 3) := by decide +kernel
theorem dL_law_341 : decode cL_law 341 = .ok (.lstore 10, 2) := by decide +kernel
theorem dL_law_343 : decode cL_law 343 = .ok (.iload 5, 2) := by decide +kernel
theorem dL_law_345 : decode cL_law 345 = .ok (.ifCond .eq 65, 3) := by decide +kernel
theorem dL_law_348 : decode cL_law 348 = .ok (.aload_n 1, 1) := by decide +kernel
theorem dL_law_349 : decode cL_law 349 = .ok (.iconst 0, 1) := by decide +kernel
theorem dL_law_350 : decode cL_law 350 = .ok (.invokevirtual 73, 3) := by decide +kernel
theorem dL_law_353 : decode cL_law 353 = .ok (.bipush 8, 2) := by decide +kernel
theorem dL_law_355 : decode cL_law 355 = .ok (.if_icmp .ne 55, 3) := by decide +kernel
theorem dL_law_358 : decode cL_law 358 = .ok (.aload_n 1, 1) := by decide +kernel
theorem dL_law_359 : decode cL_law 359 = .ok (.iconst 5, 1) := by decide +kernel
theorem dL_law_360 : decode cL_law 360 = .ok (.invokevirtual 96, 3) := by decide +kernel
theorem dL_law_363 : decode cL_law 363 = .ok (.ifCond .lt 47, 3) := by decide +kernel
theorem dL_law_366 : decode cL_law 366 = .ok (.aload_n 1, 1) := by decide +kernel
theorem dL_law_367 : decode cL_law 367 = .ok (.aload_n 2, 1) := by decide +kernel
theorem dL_law_368 : decode cL_law 368 = .ok (.aload_n 3, 1) := by decide +kernel
theorem dL_law_369 : decode cL_law 369 = .ok (.aload 4, 2) := by decide +kernel
theorem dL_law_371 : decode cL_law 371 = .ok (.invokestatic 119, 3) := by decide +kernel
theorem dL_law_374 : decode cL_law 374 = .ok (.ifCond .eq 36, 3) := by decide +kernel
theorem dL_law_377 : decode cL_law 377 = .ok (.aload_n 1, 1) := by decide +kernel
theorem dL_law_378 : decode cL_law 378 = .ok (.iconst 0, 1) := by decide +kernel
theorem dL_law_379 : decode cL_law 379 = .ok (.invokevirtual 133, 3) := by decide +kernel
theorem dL_law_382 : decode cL_law 382 = .ok (.aload_n 1, 1) := by decide +kernel
theorem dL_law_383 : decode cL_law 383 = .ok (.iconst 2, 1) := by decide +kernel
theorem dL_law_384 : decode cL_law 384 = .ok (.invokevirtual 133, 3) := by decide +kernel
theorem dL_law_387 : decode cL_law 387 = .ok (.aload_n 1, 1) := by decide +kernel
theorem dL_law_388 : decode cL_law 388 = .ok (.iconst 3, 1) := by decide +kernel
theorem dL_law_389 : decode cL_law 389 = .ok (.invokevirtual 133, 3) := by decide +kernel
theorem dL_law_392 : decode cL_law 392 = .ok (.iadd, 1) := by decide +kernel
theorem dL_law_393 : decode cL_law 393 = .ok (.if_icmp .ne 17, 3) := by decide +kernel
theorem dL_law_396 : decode cL_law 396 = .ok (.aload_n 1, 1) := by decide +kernel
theorem dL_law_397 : decode cL_law 397 = .ok (.iconst 0, 1) := by decide +kernel
theorem dL_law_398 : decode cL_law 398 = .ok (.invokevirtual 105, 3) := by decide +kernel
theorem dL_law_401 : decode cL_law 401 = .ok (.bipush 8, 2) := by decide +kernel
theorem dL_law_403 : decode cL_law 403 = .ok (.if_icmp .ne 7, 3) := by decide +kernel
theorem dL_law_406 : decode cL_law 406 = .ok (.iconst 1, 1) := by decide +kernel
theorem dL_law_407 : decode cL_law 407 = .ok (.goto 4, 3) := by decide +kernel
theorem dL_law_410 : decode cL_law 410 = .ok (.iconst 0, 1) := by decide +kernel
theorem dL_law_411 : decode cL_law 411 = .ok (.istore 5, 2) := by decide +kernel
theorem dL_law_413 : decode cL_law 413 = .ok (.iload 5, 2) := by decide +kernel
theorem dL_law_415 : decode cL_law 415 = .ok (.ifCond .eq 17, 3) := by decide +kernel
theorem dL_law_418 : decode cL_law 418 = .ok (.aload_n 1, 1) := by decide +kernel
theorem dL_law_419 : decode cL_law 419 = .ok (.invokevirtual 86, 3) := by decide +kernel
theorem dL_law_422 : decode cL_law 422 = .ok (.lload 10, 2) := by decide +kernel
theorem dL_law_424 : decode cL_law 424 = .ok (.lcmp, 1) := by decide +kernel
theorem dL_law_425 : decode cL_law 425 = .ok (.ifCond .ne 7, 3) := by decide +kernel
theorem dL_law_428 : decode cL_law 428 = .ok (.iconst 1, 1) := by decide +kernel
theorem dL_law_429 : decode cL_law 429 = .ok (.goto 4, 3) := by decide +kernel
theorem dL_law_432 : decode cL_law 432 = .ok (.iconst 0, 1) := by decide +kernel
theorem dL_law_433 : decode cL_law 433 = .ok (.ireturn, 1) := by decide +kernel
abbrev vwCl : List vw_C := [(RX0, TX0, 3), (RX1, TX1, 6), (RX2, TX2, 10), (RX3, TX3, 5), (RX4, TX4, 12), (RX5, TX5, 6)]
end
