/-! ===== BEGIN words of one list among another's, by their places ===== -/
theorem goodIn_r {big : List Cond} (ws : List Cond) (ps : List Nat) (hp : ws = ps.filterMap (fun i => big[i]?)) (h : ws.all goodWord = true) : GoodIn big ws := by
  intro w hw
  have h1 := List.all_eq_true.mp h w hw
  rw [hp] at hw
  obtain ⟨i, -, hi⟩ := List.mem_filterMap.mp hw
  have hm : w ∈ big := by first | exact List.mem_of_getElem? hi | exact List.getElem?_mem hi
  exact ⟨hm, good_of_word h1⟩
theorem goodIn_app {big a b : List Cond} (ha : GoodIn big a) (hb : GoodIn big b) : GoodIn big (a ++ b) := fun w h => (List.mem_append.mp h).elim (ha w) (hb w)
theorem goodIn_ca {big a b : List Cond} {c : Cond} (ha : GoodIn big (c :: a)) (hb : GoodIn big b) : GoodIn big (c :: (a ++ b)) := fun w h => (List.mem_cons.mp h).elim (fun e => ha w (List.mem_cons.mpr (Or.inl e))) (fun h => (List.mem_append.mp h).elim (fun h => ha w (List.mem_cons.mpr (Or.inr h))) (hb w))
theorem goodIn_sub {big ws : List Cond} (hm : ∀ w ∈ ws, w ∈ big) (h : ws.all goodWord = true) : GoodIn big ws := fun w hw => ⟨hm w hw, good_of_word (List.all_eq_true.mp h w hw)⟩
/-! ===== END ===== -/

/-! ===== BEGIN printed: names, fields, word lists, decode rows ===== -/
def RX0 : String := "MeterPool$Batteries"
def TX0 : u_T := fun k => match k with
  | 0 => ("MeterPool$Batteries", "capacity", "[I", true)
  | 1 => ("MeterPool$Batteries", "rate", "[I", true)
  | 2 => ("MeterPool$Batteries", "efficiency", "[I", true)
  | _ => ("MeterPool$Batteries", "charge", "[I", true)
def tyX0 : Nat → FieldType := fun k => match k with
  | 0 => .array .int
  | 1 => .array .int
  | 2 => .array .int
  | _ => .array .int
abbrev wsX00 : List Cond := u_ws RX0 TX0 4
theorem nmX0 : ∀ a, a < 4 → ∀ b, b < 4 → a ≠ b → (TX0 a).2.1 ≠ (TX0 b).2.1 := by decide +kernel
theorem tyX0_ok : ∀ k, k < 4 → parseFieldDescriptor (TX0 k).2.2.1 = some (tyX0 k) := by decide +kernel
abbrev cX0_init : ByteArray := prog_2_method_1_code
def yX0_init : MethodName := ⟨RX0, "<init>", "()V"⟩
abbrev cX0_copy : ByteArray := prog_2_method_2_code
def yX0_copy : MethodName := ⟨RX0, "copy", "(LMeterPool$Batteries;)V"⟩
abbrev cX0_told : ByteArray := prog_2_method_3_code
def yX0_told : MethodName := ⟨RX0, "told", "(II)I"⟩
abbrev cX0_change : ByteArray := prog_2_method_4_code
def yX0_change : MethodName := ⟨RX0, "change", "(III)V"⟩
abbrev cX0_discardExcess : ByteArray := prog_2_method_5_code
def yX0_discardExcess : MethodName := ⟨RX0, "discardExcess", "(I)I"⟩
abbrev cX0_chargeOfAll : ByteArray := prog_2_method_6_code
def yX0_chargeOfAll : MethodName := ⟨RX0, "chargeOfAll", "()I"⟩
abbrev cX0_canGive : ByteArray := prog_2_method_7_code
def yX0_canGive : MethodName := ⟨RX0, "canGive", "(I)I"⟩
abbrev cX0_canGiveAll : ByteArray := prog_2_method_8_code
def yX0_canGiveAll : MethodName := ⟨RX0, "canGiveAll", "()I"⟩
abbrev cX0_give : ByteArray := prog_2_method_9_code
def yX0_give : MethodName := ⟨RX0, "give", "(I)V"⟩
abbrev cX0_canTake : ByteArray := prog_2_method_10_code
def yX0_canTake : MethodName := ⟨RX0, "canTake", "(II)I"⟩
abbrev cX0_takeIn : ByteArray := prog_2_method_11_code
def yX0_takeIn : MethodName := ⟨RX0, "takeIn", "(II)I"⟩
def RX1 : String := "MeterPool$History"
def TX1 : u_T := fun k => match k with
  | 0 => ("MeterPool$History", "size", "I", false)
  | _ => ("MeterPool$History", "states", "[LMeterPool$Village;", true)
def tyX1 : Nat → FieldType := fun k => match k with
  | 0 => .int
  | _ => .array (.object "MeterPool$Village")
abbrev wsX10 : List Cond := u_ws RX1 TX1 2
theorem nmX1 : ∀ a, a < 2 → ∀ b, b < 2 → a ≠ b → (TX1 a).2.1 ≠ (TX1 b).2.1 := by decide +kernel
theorem tyX1_ok : ∀ k, k < 2 → parseFieldDescriptor (TX1 k).2.2.1 = some (tyX1 k) := by decide +kernel
abbrev cX1_init : ByteArray := prog_3_method_1_code
def yX1_init : MethodName := ⟨RX1, "<init>", "()V"⟩
abbrev cX1_record : ByteArray := prog_3_method_2_code
def yX1_record : MethodName := ⟨RX1, "record", "(LMeterPool$Village;)V"⟩
abbrev cX1_dropOldest : ByteArray := prog_3_method_3_code
def yX1_dropOldest : MethodName := ⟨RX1, "dropOldest", "()V"⟩
def RX2 : String := "MeterPool$Houses"
def TX2 : u_T := fun k => match k with
  | 0 => ("MeterPool$Houses", "size", "I", false)
  | 1 => ("MeterPool$Houses", "feeder", "[I", true)
  | 2 => ("MeterPool$Houses", "demand", "[I", true)
  | 3 => ("MeterPool$Houses", "debt", "[I", true)
  | 4 => ("MeterPool$Houses", "connected", "[I", true)
  | 5 => ("MeterPool$Houses", "credit", "[I", true)
  | 6 => ("MeterPool$Houses", "got", "[I", true)
  | 7 => ("MeterPool$Houses", "reason", "[I", true)
  | 8 => ("MeterPool$Houses", "gotEver", "[I", true)
  | 9 => ("MeterPool$Houses", "could", "[I", true)
  | _ => ("MeterPool$Houses", "wants", "[I", true)
def tyX2 : Nat → FieldType := fun k => match k with
  | 0 => .int
  | 1 => .array .int
  | 2 => .array .int
  | 3 => .array .int
  | 4 => .array .int
  | 5 => .array .int
  | 6 => .array .int
  | 7 => .array .int
  | 8 => .array .int
  | 9 => .array .int
  | _ => .array .int
abbrev wsX20 : List Cond := u_ws RX2 TX2 11
theorem nmX2 : ∀ a, a < 11 → ∀ b, b < 11 → a ≠ b → (TX2 a).2.1 ≠ (TX2 b).2.1 := by decide +kernel
theorem tyX2_ok : ∀ k, k < 11 → parseFieldDescriptor (TX2 k).2.2.1 = some (tyX2 k) := by decide +kernel
abbrev cX2_init : ByteArray := prog_4_method_1_code
def yX2_init : MethodName := ⟨RX2, "<init>", "()V"⟩
abbrev cX2_add : ByteArray := prog_4_method_2_code
def yX2_add : MethodName := ⟨RX2, "add", "(II)I"⟩
abbrev cX2_copy : ByteArray := prog_4_method_4_code
def yX2_copy : MethodName := ⟨RX2, "copy", "(LMeterPool$Houses;)V"⟩
abbrev cX2_told : ByteArray := prog_4_method_5_code
def yX2_told : MethodName := ⟨RX2, "told", "(II)I"⟩
abbrev cX2_change : ByteArray := prog_4_method_6_code
def yX2_change : MethodName := ⟨RX2, "change", "(III)V"⟩
abbrev cX2_canDraw : ByteArray := prog_4_method_7_code
def yX2_canDraw : MethodName := ⟨RX2, "canDraw", "(II)I"⟩
abbrev cX2_wantAll : ByteArray := prog_4_method_8_code
def yX2_wantAll : MethodName := ⟨RX2, "wantAll", "(I)V"⟩
abbrev cX2_sum : ByteArray := prog_4_method_9_code
def yX2_sum : MethodName := ⟨RX2, "sum", "([I)I"⟩
abbrev cX2_sumFrom : ByteArray := prog_4_method_10_code
def yX2_sumFrom : MethodName := ⟨RX2, "sumFrom", "(I[I)I"⟩
abbrev cX2_wantNothing : ByteArray := prog_4_method_11_code
def yX2_wantNothing : MethodName := ⟨RX2, "wantNothing", "(I)V"⟩
abbrev cX2_receive : ByteArray := prog_4_method_12_code
def yX2_receive : MethodName := ⟨RX2, "receive", "(IIZ)V"⟩
abbrev cX2_reasonOf : ByteArray := prog_4_method_13_code
def yX2_reasonOf : MethodName := ⟨RX2, "reasonOf", "(IZ)I"⟩
abbrev cX2_overdrawn : ByteArray := prog_4_method_15_code
def yX2_overdrawn : MethodName := ⟨RX2, "overdrawn", "()I"⟩
abbrev cX2_sizeOf : ByteArray := prog_4_method_16_code
def yX2_sizeOf : MethodName := ⟨RX2, "sizeOf", "(I)I"⟩
abbrev cX2_drawnFrom : ByteArray := prog_4_method_17_code
def yX2_drawnFrom : MethodName := ⟨RX2, "drawnFrom", "(II)I"⟩
def RX3 : String := "MeterPool$ListText"
def TX3 : u_T := fun k => match k with
  | 0 => ("MeterPool$ListText", "length", "I", false)
  | 1 => ("MeterPool$ListText", "codes", "[I", true)
  | 2 => ("MeterPool$ListText", "size", "I", false)
  | 3 => ("MeterPool$ListText", "numbers", "[I", true)
  | 4 => ("MeterPool$ListText", "value", "I", false)
  | _ => ("MeterPool$ListText", "times", "I", false)
def tyX3 : Nat → FieldType := fun k => match k with
  | 0 => .int
  | 1 => .array .int
  | 2 => .int
  | 3 => .array .int
  | 4 => .int
  | _ => .int
abbrev wsX30 : List Cond := u_ws RX3 TX3 6
theorem nmX3 : ∀ a, a < 6 → ∀ b, b < 6 → a ≠ b → (TX3 a).2.1 ≠ (TX3 b).2.1 := by decide +kernel
theorem tyX3_ok : ∀ k, k < 6 → parseFieldDescriptor (TX3 k).2.2.1 = some (tyX3 k) := by decide +kernel
abbrev cX3_init : ByteArray := prog_5_method_1_code
def yX3_init : MethodName := ⟨RX3, "<init>", "()V"⟩
def RX4 : String := "MeterPool$Loans"
def TX4 : u_T := fun k => match k with
  | 0 => ("MeterPool$Loans", "size", "I", false)
  | 1 => ("MeterPool$Loans", "lender", "[I", true)
  | 2 => ("MeterPool$Loans", "borrower", "[I", true)
  | _ => ("MeterPool$Loans", "owed", "[I", true)
def tyX4 : Nat → FieldType := fun k => match k with
  | 0 => .int
  | 1 => .array .int
  | 2 => .array .int
  | _ => .array .int
abbrev wsX40 : List Cond := u_ws RX4 TX4 4
theorem nmX4 : ∀ a, a < 4 → ∀ b, b < 4 → a ≠ b → (TX4 a).2.1 ≠ (TX4 b).2.1 := by decide +kernel
theorem tyX4_ok : ∀ k, k < 4 → parseFieldDescriptor (TX4 k).2.2.1 = some (tyX4 k) := by decide +kernel
abbrev cX4_init : ByteArray := prog_6_method_1_code
def yX4_init : MethodName := ⟨RX4, "<init>", "()V"⟩
abbrev cX4_add : ByteArray := prog_6_method_2_code
def yX4_add : MethodName := ⟨RX4, "add", "(III)V"⟩
abbrev cX4_remove : ByteArray := prog_6_method_3_code
def yX4_remove : MethodName := ⟨RX4, "remove", "(I)V"⟩
abbrev cX4_copy : ByteArray := prog_6_method_4_code
def yX4_copy : MethodName := ⟨RX4, "copy", "(LMeterPool$Loans;)V"⟩
abbrev cX4_told : ByteArray := prog_6_method_5_code
def yX4_told : MethodName := ⟨RX4, "told", "(II)I"⟩
abbrev cX4_owedBy : ByteArray := prog_6_method_8_code
def yX4_owedBy : MethodName := ⟨RX4, "owedBy", "(I)I"⟩
abbrev cX4_owedTo : ByteArray := prog_6_method_9_code
def yX4_owedTo : MethodName := ⟨RX4, "owedTo", "(I)I"⟩
abbrev cX4_sumOwed : ByteArray := prog_6_method_10_code
def yX4_sumOwed : MethodName := ⟨RX4, "sumOwed", "([II)I"⟩
abbrev cX4_removePaid : ByteArray := prog_6_method_11_code
def yX4_removePaid : MethodName := ⟨RX4, "removePaid", "()V"⟩
def RX5 : String := "MeterPool$Village"
def TX5 : u_T := fun k => match k with
  | 0 => ("MeterPool$Village", "houses", "LMeterPool$Houses;", true)
  | 1 => ("MeterPool$Village", "loans", "LMeterPool$Loans;", true)
  | 2 => ("MeterPool$Village", "batteries", "LMeterPool$Batteries;", true)
  | 3 => ("MeterPool$Village", "settings", "[I", true)
  | 4 => ("MeterPool$Village", "accounts", "[I", true)
  | 5 => ("MeterPool$Village", "shedHours", "[I", true)
  | 6 => ("MeterPool$Village", "shedLatest", "[I", true)
  | 7 => ("MeterPool$Village", "list", "[I", true)
  | 8 => ("MeterPool$Village", "listSize", "I", false)
  | 9 => ("MeterPool$Village", "hour", "I", false)
  | _ => ("MeterPool$Village", "turn", "I", false)
def tyX5 : Nat → FieldType := fun k => match k with
  | 0 => .object "MeterPool$Houses"
  | 1 => .object "MeterPool$Loans"
  | 2 => .object "MeterPool$Batteries"
  | 3 => .array .int
  | 4 => .array .int
  | 5 => .array .int
  | 6 => .array .int
  | 7 => .array .int
  | 8 => .int
  | 9 => .int
  | _ => .int
abbrev wsX50 : List Cond := u_ws RX5 TX5 11
theorem nmX5 : ∀ a, a < 11 → ∀ b, b < 11 → a ≠ b → (TX5 a).2.1 ≠ (TX5 b).2.1 := by decide +kernel
theorem tyX5_ok : ∀ k, k < 11 → parseFieldDescriptor (TX5 k).2.2.1 = some (tyX5 k) := by decide +kernel
abbrev cX5_init : ByteArray := prog_7_method_1_code
def yX5_init : MethodName := ⟨RX5, "<init>", "()V"⟩
abbrev cX5_copy : ByteArray := prog_7_method_2_code
def yX5_copy : MethodName := ⟨RX5, "copy", "(LMeterPool$Village;)V"⟩
abbrev cX5_takeList : ByteArray := prog_7_method_3_code
def yX5_takeList : MethodName := ⟨RX5, "takeList", "([II)V"⟩
abbrev cX5_supplyOf : ByteArray := prog_7_method_4_code
def yX5_supplyOf : MethodName := ⟨RX5, "supplyOf", "(I)I"⟩
abbrev cX5_partForDebt : ByteArray := prog_7_method_6_code
def yX5_partForDebt : MethodName := ⟨RX5, "partForDebt", "(II)I"⟩
abbrev cX5_partForLoans : ByteArray := prog_7_method_7_code
def yX5_partForLoans : MethodName := ⟨RX5, "partForLoans", "(II)I"⟩
abbrev cX5_takeToken : ByteArray := prog_7_method_8_code
def yX5_takeToken : MethodName := ⟨RX5, "takeToken", "(II)V"⟩
abbrev cX5_payLoans : ByteArray := prog_7_method_9_code
def yX5_payLoans : MethodName := ⟨RX5, "payLoans", "(II)V"⟩
abbrev cX5_passHours : ByteArray := prog_7_method_11_code
def yX5_passHours : MethodName := ⟨RX5, "passHours", "(I)V"⟩
abbrev cX5_passHour : ByteArray := prog_7_method_13_code
def yX5_passHour : MethodName := ⟨RX5, "passHour", "()V"⟩
abbrev cX5_shed : ByteArray := prog_7_method_14_code
def yX5_shed : MethodName := ⟨RX5, "shed", "(I)V"⟩
abbrev cX5_serve : ByteArray := prog_7_method_15_code
def yX5_serve : MethodName := ⟨RX5, "serve", "(I)I"⟩
abbrev cX5_partOf : ByteArray := prog_7_method_16_code
def yX5_partOf : MethodName := ⟨RX5, "partOf", "(II)I"⟩
abbrev cX5_store : ByteArray := prog_7_method_17_code
def yX5_store : MethodName := ⟨RX5, "store", "(I)V"⟩
def RX6 : String := "MeterPool"
def TX6 : u_T := fun k => match k with
  | 0 => ("MeterPool", "now", "LMeterPool$Village;", true)
  | 1 => ("MeterPool", "ahead", "LMeterPool$Village;", true)
  | 2 => ("MeterPool", "history", "LMeterPool$History;", true)
  | 3 => ("MeterPool", "images", "[LMeterPool$Village;", true)
  | 4 => ("MeterPool", "kept", "[Z", true)
  | _ => ("MeterPool", "text", "LMeterPool$ListText;", true)
def tyX6 : Nat → FieldType := fun k => match k with
  | 0 => .object "MeterPool$Village"
  | 1 => .object "MeterPool$Village"
  | 2 => .object "MeterPool$History"
  | 3 => .array (.object "MeterPool$Village")
  | 4 => .array .boolean
  | _ => .object "MeterPool$ListText"
abbrev wsX60 : List Cond := u_ws RX6 TX6 6
theorem nmX6 : ∀ a, a < 6 → ∀ b, b < 6 → a ≠ b → (TX6 a).2.1 ≠ (TX6 b).2.1 := by decide +kernel
theorem tyX6_ok : ∀ k, k < 6 → parseFieldDescriptor (TX6 k).2.2.1 = some (tyX6 k) := by decide +kernel
abbrev cX6_init : ByteArray := prog_1_method_1_code
def yX6_init : MethodName := ⟨RX6, "<init>", "()V"⟩
abbrev cX6_addHouse : ByteArray := prog_1_method_2_code
def yX6_addHouse : MethodName := ⟨RX6, "addHouse", "(II)I"⟩
abbrev cX6_setHouse : ByteArray := prog_1_method_3_code
def yX6_setHouse : MethodName := ⟨RX6, "setHouse", "(III)I"⟩
abbrev cX6_buy : ByteArray := prog_1_method_5_code
def yX6_buy : MethodName := ⟨RX6, "buy", "(II)I"⟩
abbrev cX6_lend : ByteArray := prog_1_method_6_code
def yX6_lend : MethodName := ⟨RX6, "lend", "(III)I"⟩
abbrev cX6_set : ByteArray := prog_1_method_9_code
def yX6_set : MethodName := ⟨RX6, "set", "(II)I"⟩
abbrev cX6_setBattery : ByteArray := prog_1_method_10_code
def yX6_setBattery : MethodName := ⟨RX6, "setBattery", "(III)I"⟩
abbrev cX6_run : ByteArray := prog_1_method_11_code
def yX6_run : MethodName := ⟨RX6, "run", "(I)I"⟩
abbrev cX6_house : ByteArray := prog_1_method_19_code
def yX6_house : MethodName := ⟨RX6, "house", "(II)I"⟩
abbrev cX6_loan : ByteArray := prog_1_method_20_code
def yX6_loan : MethodName := ⟨RX6, "loan", "(II)I"⟩
abbrev cX6_battery : ByteArray := prog_1_method_21_code
def yX6_battery : MethodName := ⟨RX6, "battery", "(II)I"⟩
abbrev cX6_feeder : ByteArray := prog_1_method_22_code
def yX6_feeder : MethodName := ⟨RX6, "feeder", "(II)I"⟩
abbrev cX6_account : ByteArray := prog_1_method_23_code
def yX6_account : MethodName := ⟨RX6, "account", "(I)I"⟩
abbrev cX6_count : ByteArray := prog_1_method_25_code
def yX6_count : MethodName := ⟨RX6, "count", "(I)I"⟩
abbrev cX6_setting : ByteArray := prog_1_method_26_code
def yX6_setting : MethodName := ⟨RX6, "setting", "(I)I"⟩
abbrev cX6_met : ByteArray := prog_1_method_30_code
def yX6_met : MethodName := ⟨RX6, "met", "()D"⟩
abbrev cX6_within : ByteArray := prog_1_method_32_code
def yX6_within : MethodName := ⟨RX6, "within", "(III)Z"⟩
abbrev cX6_isHouse : ByteArray := prog_1_method_33_code
def yX6_isHouse : MethodName := ⟨RX6, "isHouse", "(I)Z"⟩
abbrev cX6_isLoan : ByteArray := prog_1_method_34_code
def yX6_isLoan : MethodName := ⟨RX6, "isLoan", "(I)Z"⟩
abbrev cX6_isBattery : ByteArray := prog_1_method_35_code
def yX6_isBattery : MethodName := ⟨RX6, "isBattery", "(I)Z"⟩
abbrev cX6_isSetting : ByteArray := prog_1_method_36_code
def yX6_isSetting : MethodName := ⟨RX6, "isSetting", "(I)Z"⟩
def RX7 : String := "MeterPoolModel"
def TX7 : u_T := fun k => match k with
  | _ => ("", "", "", false)
def tyX7 : Nat → FieldType := fun k => match k with
  | _ => .int
abbrev wsX70 : List Cond := u_ws RX7 TX7 0
theorem nmX7 : ∀ a, a < 0 → ∀ b, b < 0 → a ≠ b → (TX7 a).2.1 ≠ (TX7 b).2.1 := by decide +kernel
theorem tyX7_ok : ∀ k, k < 0 → parseFieldDescriptor (TX7 k).2.2.1 = some (tyX7 k) := by decide +kernel
def RJ9 : String := "java/lang/Math"
def TJ9 : u_T := fun k => match k with
  | _ => ("", "", "", false)
def tyJ9 : Nat → FieldType := fun k => match k with
  | _ => .int
abbrev wsJ90 : List Cond := u_ws RJ9 TJ9 0
theorem nmJ9 : ∀ a, a < 0 → ∀ b, b < 0 → a ≠ b → (TJ9 a).2.1 ≠ (TJ9 b).2.1 := by decide +kernel
theorem tyJ9_ok : ∀ k, k < 0 → parseFieldDescriptor (TJ9 k).2.2.1 = some (tyJ9 k) := by decide +kernel
abbrev cJ9_floorMod_7cf53 : ByteArray := prog_10_method_50_code
def yJ9_floorMod_7cf53 : MethodName := ⟨RJ9, "floorMod", "(II)I"⟩
abbrev cJ9_max_7cf53 : ByteArray := prog_10_method_65_code
def yJ9_max_7cf53 : MethodName := ⟨RJ9, "max", "(II)I"⟩
abbrev cJ9_min_7cf53 : ByteArray := prog_10_method_69_code
def yJ9_min_7cf53 : MethodName := ⟨RJ9, "min", "(II)I"⟩
def RJ10 : String := "java/lang/System"
def TJ10 : u_T := fun k => match k with
  | _ => ("", "", "", false)
def tyJ10 : Nat → FieldType := fun k => match k with
  | _ => .int
abbrev wsJ100 : List Cond := u_ws RJ10 TJ10 0
theorem nmJ10 : ∀ a, a < 0 → ∀ b, b < 0 → a ≠ b → (TJ10 a).2.1 ≠ (TJ10 b).2.1 := by decide +kernel
theorem tyJ10_ok : ∀ k, k < 0 → parseFieldDescriptor (TJ10 k).2.2.1 = some (tyJ10 k) := by decide +kernel
def RL : String := "MeterPoolLaw"
abbrev cL_cell : ByteArray := method_2_code
def yL_cell : MethodName := ⟨RL, "cell", "([II)I"⟩
abbrev cL_at : ByteArray := method_3_code
def yL_at : MethodName := ⟨RL, "at", "(II)I"⟩
abbrev cL_draw : ByteArray := method_4_code
def yL_draw : MethodName := ⟨RL, "draw", "(I[I[I)I"⟩
abbrev cL_give : ByteArray := method_5_code
def yL_give : MethodName := ⟨RL, "give", "(I[I)I"⟩
abbrev cL_wants : ByteArray := method_6_code
def yL_wants : MethodName := ⟨RL, "wants", "(II[I[I)I"⟩
abbrev cL_hour : ByteArray := method_7_code
def yL_hour : MethodName := ⟨RL, "hour", "([I[I[I[I[I)V"⟩
abbrev cL_owes : ByteArray := method_8_code
def yL_owes : MethodName := ⟨RL, "owes", "(II[I[I)I"⟩
abbrev cL_drop : ByteArray := method_9_code
def yL_drop : MethodName := ⟨RL, "drop", "([I[I)V"⟩
abbrev cL_token : ByteArray := method_10_code
def yL_token : MethodName := ⟨RL, "token", "(II[I[I[I)V"⟩
abbrev cL_fresh : ByteArray := method_11_code
def yL_fresh : MethodName := ⟨RL, "fresh", "([I[I[I)V"⟩
abbrev cL_house : ByteArray := method_12_code
def yL_house : MethodName := ⟨RL, "house", "(LMeterPool;II[I[I[I)Z"⟩
abbrev cL_set : ByteArray := method_13_code
def yL_set : MethodName := ⟨RL, "set", "(LMeterPool;II[I[I[I)Z"⟩
abbrev cL_buy : ByteArray := method_14_code
def yL_buy : MethodName := ⟨RL, "buy", "(LMeterPool;II[I[I[I)Z"⟩
abbrev cL_lend : ByteArray := method_15_code
def yL_lend : MethodName := ⟨RL, "lend", "(LMeterPool;II[I[I[I)Z"⟩
abbrev cL_run : ByteArray := method_16_code
def yL_run : MethodName := ⟨RL, "run", "(LMeterPool;I[I[I[I[I[I)Z"⟩
abbrev cL_told : ByteArray := method_17_code
def yL_told : MethodName := ⟨RL, "told", "(LMeterPool;[I[I[I[I[I)Z"⟩
abbrev cL_law : ByteArray := code
def yL_law : MethodName := ⟨RL, "law", "([I)Z"⟩
abbrev vwCl : List vw_C := [(RX0, TX0, 4), (RX1, TX1, 2), (RX2, TX2, 11), (RX3, TX3, 6), (RX4, TX4, 4), (RX5, TX5, 11), (RX6, TX6, 6)]
