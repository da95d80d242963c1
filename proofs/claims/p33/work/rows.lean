section
-- ===== PART A: goes FIRST, ahead of the names: the tables' words, and 'selects' of the private methods out of them =====
/-- a private method of a class that the tables say can be made, by its rows of tables_1 -/
def lw_okq (q : MethodName × Nat) : Prop := (q.1.cls ≠ "java/lang/invoke/MethodHandle" ∧ q.1.cls ≠ "java/lang/invoke/VarHandle") ∧ Cond.instantiable q.1.cls q.2 ∈ tables_1 ∧ Cond.privateMethod q.1 ∈ tables_1 ∧ Cond.instanceMethod q.1 ∈ tables_1
theorem lw_p0 : lw_okq (⟨"MeterPool$History", "dropOldest", "()V"⟩, 2) := ⟨⟨by decide +kernel, by decide +kernel⟩, List.mem_of_getElem? (i := 162) (by decide +kernel), List.mem_of_getElem? (i := 246) (by decide +kernel), List.mem_of_getElem? (i := 247) (by decide +kernel)⟩
theorem lw_p1 : lw_okq (⟨"MeterPool", "isHouse", "(I)Z"⟩, 6) := ⟨⟨by decide +kernel, by decide +kernel⟩, List.mem_of_getElem? (i := 11) (by decide +kernel), List.mem_of_getElem? (i := 287) (by decide +kernel), List.mem_of_getElem? (i := 288) (by decide +kernel)⟩
theorem lw_p2 : lw_okq (⟨"MeterPool$Loans", "sumOwed", "([II)I"⟩, 4) := ⟨⟨by decide +kernel, by decide +kernel⟩, List.mem_of_getElem? (i := 75) (by decide +kernel), List.mem_of_getElem? (i := 376) (by decide +kernel), List.mem_of_getElem? (i := 377) (by decide +kernel)⟩
theorem lw_p3 : lw_okq (⟨"MeterPool$Village", "payLoans", "(II)V"⟩, 11) := ⟨⟨by decide +kernel, by decide +kernel⟩, List.mem_of_getElem? (i := 19) (by decide +kernel), List.mem_of_getElem? (i := 380) (by decide +kernel), List.mem_of_getElem? (i := 381) (by decide +kernel)⟩
theorem lw_p4 : lw_okq (⟨"MeterPool$Village", "passHour", "()V"⟩, 11) := ⟨⟨by decide +kernel, by decide +kernel⟩, List.mem_of_getElem? (i := 19) (by decide +kernel), List.mem_of_getElem? (i := 429) (by decide +kernel), List.mem_of_getElem? (i := 430) (by decide +kernel)⟩
theorem lw_p5 : lw_okq (⟨"MeterPool$Village", "shed", "(I)V"⟩, 11) := ⟨⟨by decide +kernel, by decide +kernel⟩, List.mem_of_getElem? (i := 19) (by decide +kernel), List.mem_of_getElem? (i := 454) (by decide +kernel), List.mem_of_getElem? (i := 455) (by decide +kernel)⟩
theorem lw_p6 : lw_okq (⟨"MeterPool$Village", "serve", "(I)I"⟩, 11) := ⟨⟨by decide +kernel, by decide +kernel⟩, List.mem_of_getElem? (i := 19) (by decide +kernel), List.mem_of_getElem? (i := 470) (by decide +kernel), List.mem_of_getElem? (i := 471) (by decide +kernel)⟩
theorem lw_p7 : lw_okq (⟨"MeterPool$Village", "partOf", "(II)I"⟩, 11) := ⟨⟨by decide +kernel, by decide +kernel⟩, List.mem_of_getElem? (i := 19) (by decide +kernel), List.mem_of_getElem? (i := 474) (by decide +kernel), List.mem_of_getElem? (i := 475) (by decide +kernel)⟩
theorem lw_p8 : lw_okq (⟨"MeterPool$Houses", "reasonOf", "(IZ)I"⟩, 11) := ⟨⟨by decide +kernel, by decide +kernel⟩, List.mem_of_getElem? (i := 25) (by decide +kernel), List.mem_of_getElem? (i := 482) (by decide +kernel), List.mem_of_getElem? (i := 483) (by decide +kernel)⟩
theorem lw_p9 : lw_okq (⟨"MeterPool$Village", "store", "(I)V"⟩, 11) := ⟨⟨by decide +kernel, by decide +kernel⟩, List.mem_of_getElem? (i := 19) (by decide +kernel), List.mem_of_getElem? (i := 490) (by decide +kernel), List.mem_of_getElem? (i := 491) (by decide +kernel)⟩
theorem lw_p10 : lw_okq (⟨"MeterPool", "isLoan", "(I)Z"⟩, 6) := ⟨⟨by decide +kernel, by decide +kernel⟩, List.mem_of_getElem? (i := 11) (by decide +kernel), List.mem_of_getElem? (i := 519) (by decide +kernel), List.mem_of_getElem? (i := 520) (by decide +kernel)⟩
def lw_privs_1 : List (MethodName × Nat) := [(⟨"MeterPool$History", "dropOldest", "()V"⟩, 2), (⟨"MeterPool", "isHouse", "(I)Z"⟩, 6), (⟨"MeterPool$Loans", "sumOwed", "([II)I"⟩, 4), (⟨"MeterPool$Village", "payLoans", "(II)V"⟩, 11), (⟨"MeterPool$Village", "passHour", "()V"⟩, 11), (⟨"MeterPool$Village", "shed", "(I)V"⟩, 11), (⟨"MeterPool$Village", "serve", "(I)I"⟩, 11), (⟨"MeterPool$Village", "partOf", "(II)I"⟩, 11), (⟨"MeterPool$Houses", "reasonOf", "(IZ)I"⟩, 11), (⟨"MeterPool$Village", "store", "(I)V"⟩, 11), (⟨"MeterPool", "isLoan", "(I)Z"⟩, 6)]
theorem lw_r1 : ∀ q ∈ lw_privs_1, lw_okq q := List.forall_mem_cons.mpr ⟨lw_p0, List.forall_mem_cons.mpr ⟨lw_p1, List.forall_mem_cons.mpr ⟨lw_p2, List.forall_mem_cons.mpr ⟨lw_p3, List.forall_mem_cons.mpr ⟨lw_p4, List.forall_mem_cons.mpr ⟨lw_p5, List.forall_mem_cons.mpr ⟨lw_p6, List.forall_mem_cons.mpr ⟨lw_p7, List.forall_mem_cons.mpr ⟨lw_p8, List.forall_mem_cons.mpr ⟨lw_p9, List.forall_mem_cons.mpr ⟨lw_p10, fun _ h => absurd h List.not_mem_nil⟩⟩⟩⟩⟩⟩⟩⟩⟩⟩⟩
def lw_privs : List (MethodName × Nat) := lw_privs_1
def lw_tbl : List Cond := k2_sels lw_privs ++ tables_1
theorem lw_privs_ok : ∀ q ∈ lw_privs, lw_okq q := lw_r1
/-- the streams that the claim lets the run draw from -/
abbrev lw_cs : List Choice := [Jvm.Choice.named "NaN.bits"]
theorem lw_bits : nanBits ∈ lw_cs := by first | decide | exact List.mem_cons_self | simp [lw_cs, nanBits]
-- ===== end of PART A; then your names; then what follows =====
end
section
/-! ===== BEGIN words of one list among another's, by their places ===== -/
theorem goodIn_r {big : List Cond} (ws : List Cond) (ps : List Nat) (hp : ws = ps.filterMap (fun i => big[i]?)) (h : ws.all goodWord = true) : GoodIn big ws := by
  intro w hw
  have h1 := List.all_eq_true.mp h w hw
  rw [hp] at hw
  obtain ⟨i, -, hi⟩ := List.mem_filterMap.mp hw
  have hm : w ∈ big := by first | exact List.mem_of_getElem? hi | exact List.getElem?_mem hi
  exact ⟨hm, good_of_word h1⟩
theorem goodIn_app {big a b : List Cond} (ha : GoodIn big a) (hb : GoodIn big b) : GoodIn big (a ++ b) := fun w h => (List.mem_append.mp h).elim (ha w) (hb w)
theorem goodIn_ca {big a b : List Cond} {c : Cond} (ha : GoodIn big (c :: a)) (hb : GoodIn big b) : GoodIn big (c :: (a ++ b)) := fun w h => (List.mem_cons.mp h).elim (fun e => ha w (List.mem_cons.mpr (Or.inl e))) (fun h => (List.mem_append.mp h).elim (fun h => ha w (List.mem_cons.mpr (Or.inr h))) (hb w))
theorem goodIn_sub {big ws : List Cond} (hm : ∀ w ∈ ws, w ∈ big) (h : ws.all goodWord = true) : GoodIn big ws := fun w hw => ⟨hm w hw, good_of_word (List.all_eq_true.mp h w hw)⟩
/-! ===== END ===== -/

/-! ===== BEGIN printed: names, fields, word lists, decode rows ===== -/
def RX0 : String := "MeterPool$Batteries"
def TX0 : u_T := fun k => match k with
  | 0 => ("MeterPool$Batteries", "capacity", "[I", true)
  | 1 => ("MeterPool$Batteries", "rate", "[I", true)
  | 2 => ("MeterPool$Batteries", "efficiency", "[I", true)
  | _ => ("MeterPool$Batteries", "charge", "[I", true)
def tyX0 : Nat → FieldType := fun k => match k with
  | 0 => .array .int
  | 1 => .array .int
  | 2 => .array .int
  | _ => .array .int
abbrev wsX00 : List Cond := u_ws RX0 TX0 4
theorem nmX0 : ∀ a, a < 4 → ∀ b, b < 4 → a ≠ b → (TX0 a).2.1 ≠ (TX0 b).2.1 := by decide +kernel
theorem tyX0_ok : ∀ k, k < 4 → parseFieldDescriptor (TX0 k).2.2.1 = some (tyX0 k) := by decide +kernel
abbrev cX0_init : ByteArray := prog_2_method_1_code
def yX0_init : MethodName := ⟨RX0, "<init>", "()V"⟩
abbrev cX0_copy : ByteArray := prog_2_method_2_code
def yX0_copy : MethodName := ⟨RX0, "copy", "(LMeterPool$Batteries;)V"⟩
abbrev cX0_told : ByteArray := prog_2_method_3_code
def yX0_told : MethodName := ⟨RX0, "told", "(II)I"⟩
abbrev cX0_change : ByteArray := prog_2_method_4_code
def yX0_change : MethodName := ⟨RX0, "change", "(III)V"⟩
abbrev cX0_discardExcess : ByteArray := prog_2_method_5_code
def yX0_discardExcess : MethodName := ⟨RX0, "discardExcess", "(I)I"⟩
abbrev cX0_chargeOfAll : ByteArray := prog_2_method_6_code
def yX0_chargeOfAll : MethodName := ⟨RX0, "chargeOfAll", "()I"⟩
abbrev cX0_canGive : ByteArray := prog_2_method_7_code
def yX0_canGive : MethodName := ⟨RX0, "canGive", "(I)I"⟩
abbrev cX0_canGiveAll : ByteArray := prog_2_method_8_code
def yX0_canGiveAll : MethodName := ⟨RX0, "canGiveAll", "()I"⟩
abbrev cX0_give : ByteArray := prog_2_method_9_code
def yX0_give : MethodName := ⟨RX0, "give", "(I)V"⟩
abbrev cX0_canTake : ByteArray := prog_2_method_10_code
def yX0_canTake : MethodName := ⟨RX0, "canTake", "(II)I"⟩
abbrev cX0_takeIn : ByteArray := prog_2_method_11_code
def yX0_takeIn : MethodName := ⟨RX0, "takeIn", "(II)I"⟩
def RX1 : String := "MeterPool$History"
def TX1 : u_T := fun k => match k with
  | 0 => ("MeterPool$History", "size", "I", false)
  | _ => ("MeterPool$History", "states", "[LMeterPool$Village;", true)
def tyX1 : Nat → FieldType := fun k => match k with
  | 0 => .int
  | _ => .array (.object "MeterPool$Village")
abbrev wsX10 : List Cond := u_ws RX1 TX1 2
theorem nmX1 : ∀ a, a < 2 → ∀ b, b < 2 → a ≠ b → (TX1 a).2.1 ≠ (TX1 b).2.1 := by decide +kernel
theorem tyX1_ok : ∀ k, k < 2 → parseFieldDescriptor (TX1 k).2.2.1 = some (tyX1 k) := by decide +kernel
abbrev cX1_init : ByteArray := prog_3_method_1_code
def yX1_init : MethodName := ⟨RX1, "<init>", "()V"⟩
abbrev cX1_record : ByteArray := prog_3_method_2_code
def yX1_record : MethodName := ⟨RX1, "record", "(LMeterPool$Village;)V"⟩
abbrev cX1_dropOldest : ByteArray := prog_3_method_3_code
def yX1_dropOldest : MethodName := ⟨RX1, "dropOldest", "()V"⟩
def RX2 : String := "MeterPool$Houses"
def TX2 : u_T := fun k => match k with
  | 0 => ("MeterPool$Houses", "size", "I", false)
  | 1 => ("MeterPool$Houses", "feeder", "[I", true)
  | 2 => ("MeterPool$Houses", "demand", "[I", true)
  | 3 => ("MeterPool$Houses", "debt", "[I", true)
  | 4 => ("MeterPool$Houses", "connected", "[I", true)
  | 5 => ("MeterPool$Houses", "credit", "[I", true)
  | 6 => ("MeterPool$Houses", "got", "[I", true)
  | 7 => ("MeterPool$Houses", "reason", "[I", true)
  | 8 => ("MeterPool$Houses", "gotEver", "[I", true)
  | 9 => ("MeterPool$Houses", "could", "[I", true)
  | _ => ("MeterPool$Houses", "wants", "[I", true)
def tyX2 : Nat → FieldType := fun k => match k with
  | 0 => .int
  | 1 => .array .int
  | 2 => .array .int
  | 3 => .array .int
  | 4 => .array .int
  | 5 => .array .int
  | 6 => .array .int
  | 7 => .array .int
  | 8 => .array .int
  | 9 => .array .int
  | _ => .array .int
abbrev wsX20 : List Cond := u_ws RX2 TX2 11
theorem nmX2 : ∀ a, a < 11 → ∀ b, b < 11 → a ≠ b → (TX2 a).2.1 ≠ (TX2 b).2.1 := by decide +kernel
theorem tyX2_ok : ∀ k, k < 11 → parseFieldDescriptor (TX2 k).2.2.1 = some (tyX2 k) := by decide +kernel
abbrev cX2_init : ByteArray := prog_4_method_1_code
def yX2_init : MethodName := ⟨RX2, "<init>", "()V"⟩
abbrev cX2_add : ByteArray := prog_4_method_2_code
def yX2_add : MethodName := ⟨RX2, "add", "(II)I"⟩
abbrev cX2_copy : ByteArray := prog_4_method_4_code
def yX2_copy : MethodName := ⟨RX2, "copy", "(LMeterPool$Houses;)V"⟩
abbrev cX2_told : ByteArray := prog_4_method_5_code
def yX2_told : MethodName := ⟨RX2, "told", "(II)I"⟩
abbrev cX2_change : ByteArray := prog_4_method_6_code
def yX2_change : MethodName := ⟨RX2, "change", "(III)V"⟩
abbrev cX2_canDraw : ByteArray := prog_4_method_7_code
def yX2_canDraw : MethodName := ⟨RX2, "canDraw", "(II)I"⟩
abbrev cX2_wantAll : ByteArray := prog_4_method_8_code
def yX2_wantAll : MethodName := ⟨RX2, "wantAll", "(I)V"⟩
abbrev cX2_sum : ByteArray := prog_4_method_9_code
def yX2_sum : MethodName := ⟨RX2, "sum", "([I)I"⟩
abbrev cX2_sumFrom : ByteArray := prog_4_method_10_code
def yX2_sumFrom : MethodName := ⟨RX2, "sumFrom", "(I[I)I"⟩
abbrev cX2_wantNothing : ByteArray := prog_4_method_11_code
def yX2_wantNothing : MethodName := ⟨RX2, "wantNothing", "(I)V"⟩
abbrev cX2_receive : ByteArray := prog_4_method_12_code
def yX2_receive : MethodName := ⟨RX2, "receive", "(IIZ)V"⟩
abbrev cX2_reasonOf : ByteArray := prog_4_method_13_code
def yX2_reasonOf : MethodName := ⟨RX2, "reasonOf", "(IZ)I"⟩
abbrev cX2_overdrawn : ByteArray := prog_4_method_15_code
def yX2_overdrawn : MethodName := ⟨RX2, "overdrawn", "()I"⟩
abbrev cX2_sizeOf : ByteArray := prog_4_method_16_code
def yX2_sizeOf : MethodName := ⟨RX2, "sizeOf", "(I)I"⟩
abbrev cX2_drawnFrom : ByteArray := prog_4_method_17_code
def yX2_drawnFrom : MethodName := ⟨RX2, "drawnFrom", "(II)I"⟩
def RX3 : String := "MeterPool$ListText"
def TX3 : u_T := fun k => match k with
  | 0 => ("MeterPool$ListText", "length", "I", false)
  | 1 => ("MeterPool$ListText", "codes", "[I", true)
  | 2 => ("MeterPool$ListText", "size", "I", false)
  | 3 => ("MeterPool$ListText", "numbers", "[I", true)
  | 4 => ("MeterPool$ListText", "value", "I", false)
  | _ => ("MeterPool$ListText", "times", "I", false)
def tyX3 : Nat → FieldType := fun k => match k with
  | 0 => .int
  | 1 => .array .int
  | 2 => .int
  | 3 => .array .int
  | 4 => .int
  | _ => .int
abbrev wsX30 : List Cond := u_ws RX3 TX3 6
theorem nmX3 : ∀ a, a < 6 → ∀ b, b < 6 → a ≠ b → (TX3 a).2.1 ≠ (TX3 b).2.1 := by decide +kernel
theorem tyX3_ok : ∀ k, k < 6 → parseFieldDescriptor (TX3 k).2.2.1 = some (tyX3 k) := by decide +kernel
abbrev cX3_init : ByteArray := prog_5_method_1_code
def yX3_init : MethodName := ⟨RX3, "<init>", "()V"⟩
def RX4 : String := "MeterPool$Loans"
def TX4 : u_T := fun k => match k with
  | 0 => ("MeterPool$Loans", "size", "I", false)
  | 1 => ("MeterPool$Loans", "lender", "[I", true)
  | 2 => ("MeterPool$Loans", "borrower", "[I", true)
  | _ => ("MeterPool$Loans", "owed", "[I", true)
def tyX4 : Nat → FieldType := fun k => match k with
  | 0 => .int
  | 1 => .array .int
  | 2 => .array .int
  | _ => .array .int
abbrev wsX40 : List Cond := u_ws RX4 TX4 4
theorem nmX4 : ∀ a, a < 4 → ∀ b, b < 4 → a ≠ b → (TX4 a).2.1 ≠ (TX4 b).2.1 := by decide +kernel
theorem tyX4_ok : ∀ k, k < 4 → parseFieldDescriptor (TX4 k).2.2.1 = some (tyX4 k) := by decide +kernel
abbrev cX4_init : ByteArray := prog_6_method_1_code
def yX4_init : MethodName := ⟨RX4, "<init>", "()V"⟩
abbrev cX4_add : ByteArray := prog_6_method_2_code
def yX4_add : MethodName := ⟨RX4, "add", "(III)V"⟩
abbrev cX4_remove : ByteArray := prog_6_method_3_code
def yX4_remove : MethodName := ⟨RX4, "remove", "(I)V"⟩
abbrev cX4_copy : ByteArray := prog_6_method_4_code
def yX4_copy : MethodName := ⟨RX4, "copy", "(LMeterPool$Loans;)V"⟩
abbrev cX4_told : ByteArray := prog_6_method_5_code
def yX4_told : MethodName := ⟨RX4, "told", "(II)I"⟩
abbrev cX4_owedBy : ByteArray := prog_6_method_8_code
def yX4_owedBy : MethodName := ⟨RX4, "owedBy", "(I)I"⟩
abbrev cX4_owedTo : ByteArray := prog_6_method_9_code
def yX4_owedTo : MethodName := ⟨RX4, "owedTo", "(I)I"⟩
abbrev cX4_sumOwed : ByteArray := prog_6_method_10_code
def yX4_sumOwed : MethodName := ⟨RX4, "sumOwed", "([II)I"⟩
abbrev cX4_removePaid : ByteArray := prog_6_method_11_code
def yX4_removePaid : MethodName := ⟨RX4, "removePaid", "()V"⟩
def RX5 : String := "MeterPool$Village"
def TX5 : u_T := fun k => match k with
  | 0 => ("MeterPool$Village", "houses", "LMeterPool$Houses;", true)
  | 1 => ("MeterPool$Village", "loans", "LMeterPool$Loans;", true)
  | 2 => ("MeterPool$Village", "batteries", "LMeterPool$Batteries;", true)
  | 3 => ("MeterPool$Village", "settings", "[I", true)
  | 4 => ("MeterPool$Village", "accounts", "[I", true)
  | 5 => ("MeterPool$Village", "shedHours", "[I", true)
  | 6 => ("MeterPool$Village", "shedLatest", "[I", true)
  | 7 => ("MeterPool$Village", "list", "[I", true)
  | 8 => ("MeterPool$Village", "listSize", "I", false)
  | 9 => ("MeterPool$Village", "hour", "I", false)
  | _ => ("MeterPool$Village", "turn", "I", false)
def tyX5 : Nat → FieldType := fun k => match k with
  | 0 => .object "MeterPool$Houses"
  | 1 => .object "MeterPool$Loans"
  | 2 => .object "MeterPool$Batteries"
  | 3 => .array .int
  | 4 => .array .int
  | 5 => .array .int
  | 6 => .array .int
  | 7 => .array .int
  | 8 => .int
  | 9 => .int
  | _ => .int
abbrev wsX50 : List Cond := u_ws RX5 TX5 11
theorem nmX5 : ∀ a, a < 11 → ∀ b, b < 11 → a ≠ b → (TX5 a).2.1 ≠ (TX5 b).2.1 := by decide +kernel
theorem tyX5_ok : ∀ k, k < 11 → parseFieldDescriptor (TX5 k).2.2.1 = some (tyX5 k) := by decide +kernel
abbrev cX5_init : ByteArray := prog_7_method_1_code
def yX5_init : MethodName := ⟨RX5, "<init>", "()V"⟩
abbrev cX5_copy : ByteArray := prog_7_method_2_code
def yX5_copy : MethodName := ⟨RX5, "copy", "(LMeterPool$Village;)V"⟩
abbrev cX5_takeList : ByteArray := prog_7_method_3_code
def yX5_takeList : MethodName := ⟨RX5, "takeList", "([II)V"⟩
abbrev cX5_supplyOf : ByteArray := prog_7_method_4_code
def yX5_supplyOf : MethodName := ⟨RX5, "supplyOf", "(I)I"⟩
abbrev cX5_partForDebt : ByteArray := prog_7_method_6_code
def yX5_partForDebt : MethodName := ⟨RX5, "partForDebt", "(II)I"⟩
abbrev cX5_partForLoans : ByteArray := prog_7_method_7_code
def yX5_partForLoans : MethodName := ⟨RX5, "partForLoans", "(II)I"⟩
abbrev cX5_takeToken : ByteArray := prog_7_method_8_code
def yX5_takeToken : MethodName := ⟨RX5, "takeToken", "(II)V"⟩
abbrev cX5_payLoans : ByteArray := prog_7_method_9_code
def yX5_payLoans : MethodName := ⟨RX5, "payLoans", "(II)V"⟩
abbrev cX5_passHours : ByteArray := prog_7_method_11_code
def yX5_passHours : MethodName := ⟨RX5, "passHours", "(I)V"⟩
abbrev cX5_passHour : ByteArray := prog_7_method_13_code
def yX5_passHour : MethodName := ⟨RX5, "passHour", "()V"⟩
abbrev cX5_shed : ByteArray := prog_7_method_14_code
def yX5_shed : MethodName := ⟨RX5, "shed", "(I)V"⟩
abbrev cX5_serve : ByteArray := prog_7_method_15_code
def yX5_serve : MethodName := ⟨RX5, "serve", "(I)I"⟩
abbrev cX5_partOf : ByteArray := prog_7_method_16_code
def yX5_partOf : MethodName := ⟨RX5, "partOf", "(II)I"⟩
abbrev cX5_store : ByteArray := prog_7_method_17_code
def yX5_store : MethodName := ⟨RX5, "store", "(I)V"⟩
def RX6 : String := "MeterPool"
def TX6 : u_T := fun k => match k with
  | 0 => ("MeterPool", "now", "LMeterPool$Village;", true)
  | 1 => ("MeterPool", "ahead", "LMeterPool$Village;", true)
  | 2 => ("MeterPool", "history", "LMeterPool$History;", true)
  | 3 => ("MeterPool", "images", "[LMeterPool$Village;", true)
  | 4 => ("MeterPool", "kept", "[Z", true)
  | _ => ("MeterPool", "text", "LMeterPool$ListText;", true)
def tyX6 : Nat → FieldType := fun k => match k with
  | 0 => .object "MeterPool$Village"
  | 1 => .object "MeterPool$Village"
  | 2 => .object "MeterPool$History"
  | 3 => .array (.object "MeterPool$Village")
  | 4 => .array .boolean
  | _ => .object "MeterPool$ListText"
abbrev wsX60 : List Cond := u_ws RX6 TX6 6
theorem nmX6 : ∀ a, a < 6 → ∀ b, b < 6 → a ≠ b → (TX6 a).2.1 ≠ (TX6 b).2.1 := by decide +kernel
theorem tyX6_ok : ∀ k, k < 6 → parseFieldDescriptor (TX6 k).2.2.1 = some (tyX6 k) := by decide +kernel
abbrev cX6_init : ByteArray := prog_1_method_1_code
def yX6_init : MethodName := ⟨RX6, "<init>", "()V"⟩
abbrev cX6_addHouse : ByteArray := prog_1_method_2_code
def yX6_addHouse : MethodName := ⟨RX6, "addHouse", "(II)I"⟩
abbrev cX6_setHouse : ByteArray := prog_1_method_3_code
def yX6_setHouse : MethodName := ⟨RX6, "setHouse", "(III)I"⟩
abbrev cX6_buy : ByteArray := prog_1_method_5_code
def yX6_buy : MethodName := ⟨RX6, "buy", "(II)I"⟩
abbrev cX6_lend : ByteArray := prog_1_method_6_code
def yX6_lend : MethodName := ⟨RX6, "lend", "(III)I"⟩
abbrev cX6_set : ByteArray := prog_1_method_9_code
def yX6_set : MethodName := ⟨RX6, "set", "(II)I"⟩
abbrev cX6_setBattery : ByteArray := prog_1_method_10_code
def yX6_setBattery : MethodName := ⟨RX6, "setBattery", "(III)I"⟩
abbrev cX6_run : ByteArray := prog_1_method_11_code
def yX6_run : MethodName := ⟨RX6, "run", "(I)I"⟩
abbrev cX6_house : ByteArray := prog_1_method_19_code
def yX6_house : MethodName := ⟨RX6, "house", "(II)I"⟩
abbrev cX6_loan : ByteArray := prog_1_method_20_code
def yX6_loan : MethodName := ⟨RX6, "loan", "(II)I"⟩
abbrev cX6_battery : ByteArray := prog_1_method_21_code
def yX6_battery : MethodName := ⟨RX6, "battery", "(II)I"⟩
abbrev cX6_feeder : ByteArray := prog_1_method_22_code
def yX6_feeder : MethodName := ⟨RX6, "feeder", "(II)I"⟩
abbrev cX6_account : ByteArray := prog_1_method_23_code
def yX6_account : MethodName := ⟨RX6, "account", "(I)I"⟩
abbrev cX6_count : ByteArray := prog_1_method_25_code
def yX6_count : MethodName := ⟨RX6, "count", "(I)I"⟩
abbrev cX6_setting : ByteArray := prog_1_method_26_code
def yX6_setting : MethodName := ⟨RX6, "setting", "(I)I"⟩
abbrev cX6_met : ByteArray := prog_1_method_30_code
def yX6_met : MethodName := ⟨RX6, "met", "()D"⟩
abbrev cX6_within : ByteArray := prog_1_method_32_code
def yX6_within : MethodName := ⟨RX6, "within", "(III)Z"⟩
abbrev cX6_isHouse : ByteArray := prog_1_method_33_code
def yX6_isHouse : MethodName := ⟨RX6, "isHouse", "(I)Z"⟩
abbrev cX6_isLoan : ByteArray := prog_1_method_34_code
def yX6_isLoan : MethodName := ⟨RX6, "isLoan", "(I)Z"⟩
abbrev cX6_isBattery : ByteArray := prog_1_method_35_code
def yX6_isBattery : MethodName := ⟨RX6, "isBattery", "(I)Z"⟩
abbrev cX6_isSetting : ByteArray := prog_1_method_36_code
def yX6_isSetting : MethodName := ⟨RX6, "isSetting", "(I)Z"⟩
def RX7 : String := "MeterPoolModel"
def TX7 : u_T := fun k => match k with
  | _ => ("", "", "", false)
def tyX7 : Nat → FieldType := fun k => match k with
  | _ => .int
abbrev wsX70 : List Cond := u_ws RX7 TX7 0
theorem nmX7 : ∀ a, a < 0 → ∀ b, b < 0 → a ≠ b → (TX7 a).2.1 ≠ (TX7 b).2.1 := by decide +kernel
theorem tyX7_ok : ∀ k, k < 0 → parseFieldDescriptor (TX7 k).2.2.1 = some (tyX7 k) := by decide +kernel
def RJ9 : String := "java/lang/Math"
def TJ9 : u_T := fun k => match k with
  | _ => ("", "", "", false)
def tyJ9 : Nat → FieldType := fun k => match k with
  | _ => .int
abbrev wsJ90 : List Cond := u_ws RJ9 TJ9 0
theorem nmJ9 : ∀ a, a < 0 → ∀ b, b < 0 → a ≠ b → (TJ9 a).2.1 ≠ (TJ9 b).2.1 := by decide +kernel
theorem tyJ9_ok : ∀ k, k < 0 → parseFieldDescriptor (TJ9 k).2.2.1 = some (tyJ9 k) := by decide +kernel
abbrev cJ9_floorMod_7cf53 : ByteArray := prog_10_method_50_code
def yJ9_floorMod_7cf53 : MethodName := ⟨RJ9, "floorMod", "(II)I"⟩
abbrev cJ9_max_7cf53 : ByteArray := prog_10_method_65_code
def yJ9_max_7cf53 : MethodName := ⟨RJ9, "max", "(II)I"⟩
abbrev cJ9_min_7cf53 : ByteArray := prog_10_method_69_code
def yJ9_min_7cf53 : MethodName := ⟨RJ9, "min", "(II)I"⟩
def RJ10 : String := "java/lang/System"
def TJ10 : u_T := fun k => match k with
  | _ => ("", "", "", false)
def tyJ10 : Nat → FieldType := fun k => match k with
  | _ => .int
abbrev wsJ100 : List Cond := u_ws RJ10 TJ10 0
theorem nmJ10 : ∀ a, a < 0 → ∀ b, b < 0 → a ≠ b → (TJ10 a).2.1 ≠ (TJ10 b).2.1 := by decide +kernel
theorem tyJ10_ok : ∀ k, k < 0 → parseFieldDescriptor (TJ10 k).2.2.1 = some (tyJ10 k) := by decide +kernel
def RL : String := "MeterPoolLaw"
abbrev cL_cell : ByteArray := method_2_code
def yL_cell : MethodName := ⟨RL, "cell", "([II)I"⟩
abbrev cL_at : ByteArray := method_3_code
def yL_at : MethodName := ⟨RL, "at", "(II)I"⟩
abbrev cL_draw : ByteArray := method_4_code
def yL_draw : MethodName := ⟨RL, "draw", "(I[I[I)I"⟩
abbrev cL_give : ByteArray := method_5_code
def yL_give : MethodName := ⟨RL, "give", "(I[I)I"⟩
abbrev cL_wants : ByteArray := method_6_code
def yL_wants : MethodName := ⟨RL, "wants", "(II[I[I)I"⟩
abbrev cL_hour : ByteArray := method_7_code
def yL_hour : MethodName := ⟨RL, "hour", "([I[I[I[I[I)V"⟩
abbrev cL_owes : ByteArray := method_8_code
def yL_owes : MethodName := ⟨RL, "owes", "(II[I[I)I"⟩
abbrev cL_drop : ByteArray := method_9_code
def yL_drop : MethodName := ⟨RL, "drop", "([I[I)V"⟩
abbrev cL_token : ByteArray := method_10_code
def yL_token : MethodName := ⟨RL, "token", "(II[I[I[I)V"⟩
abbrev cL_fresh : ByteArray := method_11_code
def yL_fresh : MethodName := ⟨RL, "fresh", "([I[I[I)V"⟩
abbrev cL_house : ByteArray := method_12_code
def yL_house : MethodName := ⟨RL, "house", "(LMeterPool;II[I[I[I)Z"⟩
abbrev cL_set : ByteArray := method_13_code
def yL_set : MethodName := ⟨RL, "set", "(LMeterPool;II[I[I[I)Z"⟩
abbrev cL_buy : ByteArray := method_14_code
def yL_buy : MethodName := ⟨RL, "buy", "(LMeterPool;II[I[I[I)Z"⟩
abbrev cL_lend : ByteArray := method_15_code
def yL_lend : MethodName := ⟨RL, "lend", "(LMeterPool;II[I[I[I)Z"⟩
abbrev cL_run : ByteArray := method_16_code
def yL_run : MethodName := ⟨RL, "run", "(LMeterPool;I[I[I[I[I[I)Z"⟩
abbrev cL_told : ByteArray := method_17_code
def yL_told : MethodName := ⟨RL, "told", "(LMeterPool;[I[I[I[I[I)Z"⟩
abbrev cL_law : ByteArray := code
def yL_law : MethodName := ⟨RL, "law", "([I)Z"⟩
abbrev vwCl : List vw_C := [(RX0, TX0, 4), (RX1, TX1, 2), (RX2, TX2, 11), (RX3, TX3, 6), (RX4, TX4, 4), (RX5, TX5, 11), (RX6, TX6, 6)]
end
section
/-! every word of the tables, by its place -/
def lw_w : List Cond := lw_tbl.filter goodWord
theorem lw_w_in : ∀ w ∈ lw_w, w ∈ lw_tbl := fun w h => (List.mem_filter.mp h).1
theorem lw_gi : GoodIn lw_w lw_w := fun w hw => ⟨hw, good_of_word (List.mem_filter.mp hw).2⟩
theorem tb1 : ∀ w ∈ tables_1_1, goodWord w = true → w ∈ lw_w := fun _ h hg => List.mem_filter.mpr ⟨List.mem_append_right _ (List.mem_append_left _ h), hg⟩
theorem tb2 : ∀ w ∈ tables_1_2, goodWord w = true → w ∈ lw_w := fun _ h hg => List.mem_filter.mpr ⟨List.mem_append_right _ (List.mem_append_right _ (List.mem_append_left _ h)), hg⟩
theorem tb3 : ∀ w ∈ tables_1_3, goodWord w = true → w ∈ lw_w := fun _ h hg => List.mem_filter.mpr ⟨List.mem_append_right _ (List.mem_append_right _ (List.mem_append_right _ (h))), hg⟩
theorem q1_10 : (Cond.classLink RL 34 RX6 : Cond) ∈ lw_w := tb1 _ (List.mem_of_getElem? (i := 10) rfl) rfl
theorem q1_11 : (Cond.instantiable RX6 6 : Cond) ∈ lw_w := tb1 _ (List.mem_of_getElem? (i := 11) rfl) rfl
theorem q1_1 : (Cond.initialized RX6 : Cond) ∈ lw_w := tb1 _ (List.mem_of_getElem? (i := 1) rfl) rfl
theorem q1_73 : (Cond.arrayClass .int : Cond) ∈ lw_w := tb1 _ (List.mem_of_getElem? (i := 73) rfl) rfl
theorem q1_12 : (Cond.methodLink RL 93 yX6_init : Cond) ∈ lw_w := tb1 _ (List.mem_of_getElem? (i := 12) rfl) rfl
theorem q1_13 : (Cond.instanceMethod yX6_init : Cond) ∈ lw_w := tb1 _ (List.mem_of_getElem? (i := 13) rfl) rfl
theorem q1_14 : (Cond.code yX6_init cX6_init 2 none : Cond) ∈ lw_w := tb1 _ (List.mem_of_getElem? (i := 14) rfl) rfl
theorem q1_15 : (Cond.methodLink RX6 1 objectInit : Cond) ∈ lw_w := tb1 _ (List.mem_of_getElem? (i := 15) rfl) rfl
theorem q1_16 : (Cond.instanceMethod objectInit : Cond) ∈ lw_w := tb1 _ (List.mem_of_getElem? (i := 16) rfl) rfl
theorem q1_17 : (Cond.code objectInit ⟨#[0xb1]⟩ 1 none : Cond) ∈ lw_w := tb1 _ (List.mem_of_getElem? (i := 17) rfl) rfl
theorem q1_18 : (Cond.classLink RX6 7 RX5 : Cond) ∈ lw_w := tb1 _ (List.mem_of_getElem? (i := 18) rfl) rfl
theorem q1_19 : (Cond.instantiable RX5 11 : Cond) ∈ lw_w := tb1 _ (List.mem_of_getElem? (i := 19) rfl) rfl
theorem q1_2 : (Cond.initialized RX5 : Cond) ∈ lw_w := tb1 _ (List.mem_of_getElem? (i := 2) rfl) rfl
theorem q1_200 : (Cond.fieldLink RX6 10 "MeterPool" "now" "LMeterPool$Village;" : Cond) ∈ lw_w := tb1 _ (List.mem_of_getElem? (i := 200) rfl) rfl
theorem q1_201 : (Cond.fieldLink RX6 16 "MeterPool" "ahead" "LMeterPool$Village;" : Cond) ∈ lw_w := tb1 _ (List.mem_of_getElem? (i := 201) rfl) rfl
theorem q1_161 : (Cond.classLink RX6 19 RX1 : Cond) ∈ lw_w := tb1 _ (List.mem_of_getElem? (i := 161) rfl) rfl
theorem q1_162 : (Cond.instantiable RX1 2 : Cond) ∈ lw_w := tb1 _ (List.mem_of_getElem? (i := 162) rfl) rfl
theorem q1_6 : (Cond.initialized RX1 : Cond) ∈ lw_w := tb1 _ (List.mem_of_getElem? (i := 6) rfl) rfl
theorem q1_202 : (Cond.fieldLink RX6 22 "MeterPool" "history" "LMeterPool$History;" : Cond) ∈ lw_w := tb1 _ (List.mem_of_getElem? (i := 202) rfl) rfl
theorem q1_203 : (Cond.fieldLink RX6 26 "MeterPool" "images" "[LMeterPool$Village;" : Cond) ∈ lw_w := tb1 _ (List.mem_of_getElem? (i := 203) rfl) rfl
theorem q1_199 : (Cond.arrayClass .boolean : Cond) ∈ lw_w := tb1 _ (List.mem_of_getElem? (i := 199) rfl) rfl
theorem q1_204 : (Cond.fieldLink RX6 30 "MeterPool" "kept" "[Z" : Cond) ∈ lw_w := tb1 _ (List.mem_of_getElem? (i := 204) rfl) rfl
theorem q1_178 : (Cond.classLink RX6 34 RX3 : Cond) ∈ lw_w := tb1 _ (List.mem_of_getElem? (i := 178) rfl) rfl
theorem q1_179 : (Cond.instantiable RX3 6 : Cond) ∈ lw_w := tb1 _ (List.mem_of_getElem? (i := 179) rfl) rfl
theorem q1_7 : (Cond.initialized RX3 : Cond) ∈ lw_w := tb1 _ (List.mem_of_getElem? (i := 7) rfl) rfl
theorem q1_205 : (Cond.fieldLink RX6 37 "MeterPool" "text" "LMeterPool$ListText;" : Cond) ∈ lw_w := tb1 _ (List.mem_of_getElem? (i := 205) rfl) rfl
theorem q1_20 : (Cond.methodLink RX6 9 yX5_init : Cond) ∈ lw_w := tb1 _ (List.mem_of_getElem? (i := 20) rfl) rfl
theorem q1_21 : (Cond.instanceMethod yX5_init : Cond) ∈ lw_w := tb1 _ (List.mem_of_getElem? (i := 21) rfl) rfl
theorem q1_22 : (Cond.code yX5_init cX5_init 1 none : Cond) ∈ lw_w := tb1 _ (List.mem_of_getElem? (i := 22) rfl) rfl
theorem q1_23 : (Cond.methodLink RX5 3 objectInit : Cond) ∈ lw_w := tb1 _ (List.mem_of_getElem? (i := 23) rfl) rfl
theorem q1_24 : (Cond.classLink RX5 9 RX2 : Cond) ∈ lw_w := tb1 _ (List.mem_of_getElem? (i := 24) rfl) rfl
theorem q1_25 : (Cond.instantiable RX2 11 : Cond) ∈ lw_w := tb1 _ (List.mem_of_getElem? (i := 25) rfl) rfl
theorem q1_3 : (Cond.initialized RX2 : Cond) ∈ lw_w := tb1 _ (List.mem_of_getElem? (i := 3) rfl) rfl
theorem q1_117 : (Cond.fieldLink RX5 12 "MeterPool$Village" "houses" "LMeterPool$Houses;" : Cond) ∈ lw_w := tb1 _ (List.mem_of_getElem? (i := 117) rfl) rfl
theorem q1_74 : (Cond.classLink RX5 18 RX4 : Cond) ∈ lw_w := tb1 _ (List.mem_of_getElem? (i := 74) rfl) rfl
theorem q1_75 : (Cond.instantiable RX4 4 : Cond) ∈ lw_w := tb1 _ (List.mem_of_getElem? (i := 75) rfl) rfl
theorem q1_4 : (Cond.initialized RX4 : Cond) ∈ lw_w := tb1 _ (List.mem_of_getElem? (i := 4) rfl) rfl
theorem q1_119 : (Cond.fieldLink RX5 21 "MeterPool$Village" "loans" "LMeterPool$Loans;" : Cond) ∈ lw_w := tb1 _ (List.mem_of_getElem? (i := 119) rfl) rfl
theorem q1_98 : (Cond.classLink RX5 25 RX0 : Cond) ∈ lw_w := tb1 _ (List.mem_of_getElem? (i := 98) rfl) rfl
theorem q1_99 : (Cond.instantiable RX0 4 : Cond) ∈ lw_w := tb1 _ (List.mem_of_getElem? (i := 99) rfl) rfl
theorem q1_5 : (Cond.initialized RX0 : Cond) ∈ lw_w := tb1 _ (List.mem_of_getElem? (i := 5) rfl) rfl
theorem q1_121 : (Cond.fieldLink RX5 28 "MeterPool$Village" "batteries" "LMeterPool$Batteries;" : Cond) ∈ lw_w := tb1 _ (List.mem_of_getElem? (i := 121) rfl) rfl
theorem q1_123 : (Cond.fieldLink RX5 32 "MeterPool$Village" "settings" "[I" : Cond) ∈ lw_w := tb1 _ (List.mem_of_getElem? (i := 123) rfl) rfl
theorem q1_125 : (Cond.fieldLink RX5 36 "MeterPool$Village" "accounts" "[I" : Cond) ∈ lw_w := tb1 _ (List.mem_of_getElem? (i := 125) rfl) rfl
theorem q1_127 : (Cond.fieldLink RX5 39 "MeterPool$Village" "shedHours" "[I" : Cond) ∈ lw_w := tb1 _ (List.mem_of_getElem? (i := 127) rfl) rfl
theorem q1_129 : (Cond.fieldLink RX5 42 "MeterPool$Village" "shedLatest" "[I" : Cond) ∈ lw_w := tb1 _ (List.mem_of_getElem? (i := 129) rfl) rfl
theorem q1_131 : (Cond.fieldLink RX5 45 "MeterPool$Village" "list" "[I" : Cond) ∈ lw_w := tb1 _ (List.mem_of_getElem? (i := 131) rfl) rfl
theorem q1_132 : (Cond.fieldLink RX5 48 "MeterPool$Village" "listSize" "I" : Cond) ∈ lw_w := tb1 _ (List.mem_of_getElem? (i := 132) rfl) rfl
theorem q1_134 : (Cond.fieldLink RX5 52 "MeterPool$Village" "hour" "I" : Cond) ∈ lw_w := tb1 _ (List.mem_of_getElem? (i := 134) rfl) rfl
theorem q1_136 : (Cond.fieldLink RX5 55 "MeterPool$Village" "turn" "I" : Cond) ∈ lw_w := tb1 _ (List.mem_of_getElem? (i := 136) rfl) rfl
theorem q1_27 : (Cond.instanceMethod yX2_init : Cond) ∈ lw_w := tb1 _ (List.mem_of_getElem? (i := 27) rfl) rfl
theorem q1_28 : (Cond.code yX2_init cX2_init 1 none : Cond) ∈ lw_w := tb1 _ (List.mem_of_getElem? (i := 28) rfl) rfl
theorem q1_29 : (Cond.methodLink RX2 3 objectInit : Cond) ∈ lw_w := tb1 _ (List.mem_of_getElem? (i := 29) rfl) rfl
theorem q1_33 : (Cond.fieldLink RX2 9 "MeterPool$Houses" "feeder" "[I" : Cond) ∈ lw_w := tb1 _ (List.mem_of_getElem? (i := 33) rfl) rfl
theorem q1_35 : (Cond.fieldLink RX2 15 "MeterPool$Houses" "demand" "[I" : Cond) ∈ lw_w := tb1 _ (List.mem_of_getElem? (i := 35) rfl) rfl
theorem q1_37 : (Cond.fieldLink RX2 18 "MeterPool$Houses" "debt" "[I" : Cond) ∈ lw_w := tb1 _ (List.mem_of_getElem? (i := 37) rfl) rfl
theorem q1_39 : (Cond.fieldLink RX2 21 "MeterPool$Houses" "connected" "[I" : Cond) ∈ lw_w := tb1 _ (List.mem_of_getElem? (i := 39) rfl) rfl
theorem q1_40 : (Cond.fieldLink RX2 24 "MeterPool$Houses" "credit" "[I" : Cond) ∈ lw_w := tb1 _ (List.mem_of_getElem? (i := 40) rfl) rfl
theorem q1_43 : (Cond.fieldLink RX2 27 "MeterPool$Houses" "got" "[I" : Cond) ∈ lw_w := tb1 _ (List.mem_of_getElem? (i := 43) rfl) rfl
theorem q1_45 : (Cond.fieldLink RX2 30 "MeterPool$Houses" "reason" "[I" : Cond) ∈ lw_w := tb1 _ (List.mem_of_getElem? (i := 45) rfl) rfl
theorem q1_46 : (Cond.fieldLink RX2 33 "MeterPool$Houses" "gotEver" "[I" : Cond) ∈ lw_w := tb1 _ (List.mem_of_getElem? (i := 46) rfl) rfl
theorem q1_47 : (Cond.fieldLink RX2 36 "MeterPool$Houses" "could" "[I" : Cond) ∈ lw_w := tb1 _ (List.mem_of_getElem? (i := 47) rfl) rfl
theorem q1_48 : (Cond.fieldLink RX2 39 "MeterPool$Houses" "wants" "[I" : Cond) ∈ lw_w := tb1 _ (List.mem_of_getElem? (i := 48) rfl) rfl
theorem q1_77 : (Cond.instanceMethod yX4_init : Cond) ∈ lw_w := tb1 _ (List.mem_of_getElem? (i := 77) rfl) rfl
theorem q1_78 : (Cond.code yX4_init cX4_init 1 none : Cond) ∈ lw_w := tb1 _ (List.mem_of_getElem? (i := 78) rfl) rfl
theorem q1_79 : (Cond.methodLink RX4 3 objectInit : Cond) ∈ lw_w := tb1 _ (List.mem_of_getElem? (i := 79) rfl) rfl
theorem q1_83 : (Cond.fieldLink RX4 9 "MeterPool$Loans" "lender" "[I" : Cond) ∈ lw_w := tb1 _ (List.mem_of_getElem? (i := 83) rfl) rfl
theorem q1_85 : (Cond.fieldLink RX4 15 "MeterPool$Loans" "borrower" "[I" : Cond) ∈ lw_w := tb1 _ (List.mem_of_getElem? (i := 85) rfl) rfl
theorem q1_87 : (Cond.fieldLink RX4 18 "MeterPool$Loans" "owed" "[I" : Cond) ∈ lw_w := tb1 _ (List.mem_of_getElem? (i := 87) rfl) rfl
theorem q1_100 : (Cond.methodLink RX5 27 yX0_init : Cond) ∈ lw_w := tb1 _ (List.mem_of_getElem? (i := 100) rfl) rfl
theorem q1_101 : (Cond.instanceMethod yX0_init : Cond) ∈ lw_w := tb1 _ (List.mem_of_getElem? (i := 101) rfl) rfl
theorem q1_102 : (Cond.code yX0_init cX0_init 2 none : Cond) ∈ lw_w := tb1 _ (List.mem_of_getElem? (i := 102) rfl) rfl
theorem q1_103 : (Cond.methodLink RX0 3 objectInit : Cond) ∈ lw_w := tb1 _ (List.mem_of_getElem? (i := 103) rfl) rfl
theorem q1_104 : (Cond.fieldLink RX0 9 "MeterPool$Batteries" "capacity" "[I" : Cond) ∈ lw_w := tb1 _ (List.mem_of_getElem? (i := 104) rfl) rfl
theorem q1_105 : (Cond.fieldLink RX0 15 "MeterPool$Batteries" "rate" "[I" : Cond) ∈ lw_w := tb1 _ (List.mem_of_getElem? (i := 105) rfl) rfl
theorem q1_106 : (Cond.fieldLink RX0 18 "MeterPool$Batteries" "efficiency" "[I" : Cond) ∈ lw_w := tb1 _ (List.mem_of_getElem? (i := 106) rfl) rfl
theorem q1_107 : (Cond.fieldLink RX0 21 "MeterPool$Batteries" "charge" "[I" : Cond) ∈ lw_w := tb1 _ (List.mem_of_getElem? (i := 107) rfl) rfl
theorem q1_163 : (Cond.methodLink RX6 21 yX1_init : Cond) ∈ lw_w := tb1 _ (List.mem_of_getElem? (i := 163) rfl) rfl
theorem q1_164 : (Cond.instanceMethod yX1_init : Cond) ∈ lw_w := tb1 _ (List.mem_of_getElem? (i := 164) rfl) rfl
theorem q1_165 : (Cond.code yX1_init cX1_init 2 none : Cond) ∈ lw_w := tb1 _ (List.mem_of_getElem? (i := 165) rfl) rfl
theorem q1_166 : (Cond.methodLink RX1 3 objectInit : Cond) ∈ lw_w := tb1 _ (List.mem_of_getElem? (i := 166) rfl) rfl
theorem q1_167 : (Cond.classLink RX1 9 RX5 : Cond) ∈ lw_w := tb1 _ (List.mem_of_getElem? (i := 167) rfl) rfl
theorem q1_172 : (Cond.fieldLink RX1 11 "MeterPool$History" "states" "[LMeterPool$Village;" : Cond) ∈ lw_w := tb1 _ (List.mem_of_getElem? (i := 172) rfl) rfl
theorem q1_169 : (Cond.methodLink RX1 17 yX5_init : Cond) ∈ lw_w := tb1 _ (List.mem_of_getElem? (i := 169) rfl) rfl
theorem q1_181 : (Cond.instanceMethod yX3_init : Cond) ∈ lw_w := tb1 _ (List.mem_of_getElem? (i := 181) rfl) rfl
theorem q1_182 : (Cond.code yX3_init cX3_init 1 none : Cond) ∈ lw_w := tb1 _ (List.mem_of_getElem? (i := 182) rfl) rfl
theorem q1_183 : (Cond.methodLink RX3 3 objectInit : Cond) ∈ lw_w := tb1 _ (List.mem_of_getElem? (i := 183) rfl) rfl
theorem q1_184 : (Cond.fieldLink RX3 9 "MeterPool$ListText" "codes" "[I" : Cond) ∈ lw_w := tb1 _ (List.mem_of_getElem? (i := 184) rfl) rfl
theorem q1_185 : (Cond.fieldLink RX3 15 "MeterPool$ListText" "numbers" "[I" : Cond) ∈ lw_w := tb1 _ (List.mem_of_getElem? (i := 185) rfl) rfl
theorem q1_226 : (Cond.methodLink RL 94 yL_fresh : Cond) ∈ lw_w := tb1 _ (List.mem_of_getElem? (i := 226) rfl) rfl
theorem q1_227 : (Cond.static yL_fresh : Cond) ∈ lw_w := tb1 _ (List.mem_of_getElem? (i := 227) rfl) rfl
theorem q1_0 : (Cond.initialized RL : Cond) ∈ lw_w := tb1 _ (List.mem_of_getElem? (i := 0) rfl) rfl
theorem q1_228 : (Cond.code yL_fresh cL_fresh 4 none : Cond) ∈ lw_w := tb1 _ (List.mem_of_getElem? (i := 228) rfl) rfl
theorem q3_21 : (Cond.methodLink RL 98 yL_told : Cond) ∈ lw_w := tb3 _ (List.mem_of_getElem? (i := 21) rfl) rfl
theorem q3_22 : (Cond.static yL_told : Cond) ∈ lw_w := tb3 _ (List.mem_of_getElem? (i := 22) rfl) rfl
theorem q3_23 : (Cond.code yL_told cL_told 13 (some .boolean) : Cond) ∈ lw_w := tb3 _ (List.mem_of_getElem? (i := 23) rfl) rfl
theorem q3_24 : (Cond.methodLink RL 68 yX6_house : Cond) ∈ lw_w := tb3 _ (List.mem_of_getElem? (i := 24) rfl) rfl
theorem q3_25 : (Cond.instanceMethod yX6_house : Cond) ∈ lw_w := tb3 _ (List.mem_of_getElem? (i := 25) rfl) rfl
theorem q3_26 : (Cond.selects RX6 yX6_house yX6_house : Cond) ∈ lw_w := tb3 _ (List.mem_of_getElem? (i := 26) rfl) rfl
theorem q3_27 : (Cond.code yX6_house cX6_house 3 (some .int) : Cond) ∈ lw_w := tb3 _ (List.mem_of_getElem? (i := 27) rfl) rfl
theorem q1_239 : (Cond.constant RX6 45 (-1000002) : Cond) ∈ lw_w := tb1 _ (List.mem_of_getElem? (i := 239) rfl) rfl
theorem q1_118 : (Cond.fieldLink RX6 46 "MeterPool$Village" "houses" "LMeterPool$Houses;" : Cond) ∈ lw_w := tb1 _ (List.mem_of_getElem? (i := 118) rfl) rfl
theorem q1_124 : (Cond.fieldLink RX6 124 "MeterPool$Village" "settings" "[I" : Cond) ∈ lw_w := tb1 _ (List.mem_of_getElem? (i := 124) rfl) rfl
theorem q1_120 : (Cond.fieldLink RX6 80 "MeterPool$Village" "loans" "LMeterPool$Loans;" : Cond) ∈ lw_w := tb1 _ (List.mem_of_getElem? (i := 120) rfl) rfl
theorem q2_46 : (Cond.methodLink RX6 65 yX6_isHouse : Cond) ∈ lw_w := tb2 _ (List.mem_of_getElem? (i := 46) rfl) rfl
theorem q2_48 : (Cond.instanceMethod yX6_isHouse : Cond) ∈ lw_w := tb2 _ (List.mem_of_getElem? (i := 48) rfl) rfl
theorem qs1 : (Cond.selects RX6 yX6_isHouse yX6_isHouse : Cond) ∈ lw_w := List.mem_filter.mpr ⟨List.mem_append_left _ (List.mem_of_getElem? (i := 1) rfl), rfl⟩
theorem q2_49 : (Cond.code yX6_isHouse cX6_isHouse 2 (some .boolean) : Cond) ∈ lw_w := tb2 _ (List.mem_of_getElem? (i := 49) rfl) rfl
theorem q1_31 : (Cond.fieldLink RX6 50 "MeterPool$Houses" "size" "I" : Cond) ∈ lw_w := tb1 _ (List.mem_of_getElem? (i := 31) rfl) rfl
theorem q1_236 : (Cond.methodLink RX6 41 yX6_within : Cond) ∈ lw_w := tb1 _ (List.mem_of_getElem? (i := 236) rfl) rfl
theorem q1_237 : (Cond.static yX6_within : Cond) ∈ lw_w := tb1 _ (List.mem_of_getElem? (i := 237) rfl) rfl
theorem q1_238 : (Cond.code yX6_within cX6_within 3 (some .boolean) : Cond) ∈ lw_w := tb1 _ (List.mem_of_getElem? (i := 238) rfl) rfl
theorem q3_28 : (Cond.methodLink RX6 188 yX2_canDraw : Cond) ∈ lw_w := tb3 _ (List.mem_of_getElem? (i := 28) rfl) rfl
theorem q2_208 : (Cond.instanceMethod yX2_canDraw : Cond) ∈ lw_w := tb2 _ (List.mem_of_getElem? (i := 208) rfl) rfl
theorem q2_209 : (Cond.selects RX2 yX2_canDraw yX2_canDraw : Cond) ∈ lw_w := tb2 _ (List.mem_of_getElem? (i := 209) rfl) rfl
theorem q2_210 : (Cond.code yX2_canDraw cX2_canDraw 3 (some .int) : Cond) ∈ lw_w := tb2 _ (List.mem_of_getElem? (i := 210) rfl) rfl
theorem q2_211 : (Cond.methodLink RX2 52 Lib.Math.min.name : Cond) ∈ lw_w := tb2 _ (List.mem_of_getElem? (i := 211) rfl) rfl
theorem q2_89 : (Cond.static Lib.Math.min.name : Cond) ∈ lw_w := tb2 _ (List.mem_of_getElem? (i := 89) rfl) rfl
theorem q1_8 : (Cond.initialized "java/lang/Math" : Cond) ∈ lw_w := tb1 _ (List.mem_of_getElem? (i := 8) rfl) rfl
theorem q2_90 : (Cond.code Lib.Math.min.name Lib.Math.min.code 2 (some .int) : Cond) ∈ lw_w := tb2 _ (List.mem_of_getElem? (i := 90) rfl) rfl
theorem q2_212 : (Cond.methodLink RX2 58 Lib.Math.max.name : Cond) ∈ lw_w := tb2 _ (List.mem_of_getElem? (i := 212) rfl) rfl
theorem q2_100 : (Cond.static Lib.Math.max.name : Cond) ∈ lw_w := tb2 _ (List.mem_of_getElem? (i := 100) rfl) rfl
theorem q2_101 : (Cond.code Lib.Math.max.name Lib.Math.max.code 2 (some .int) : Cond) ∈ lw_w := tb2 _ (List.mem_of_getElem? (i := 101) rfl) rfl
theorem q3_29 : (Cond.methodLink RX6 191 yX4_owedBy : Cond) ∈ lw_w := tb3 _ (List.mem_of_getElem? (i := 29) rfl) rfl
theorem q2_132 : (Cond.instanceMethod yX4_owedBy : Cond) ∈ lw_w := tb2 _ (List.mem_of_getElem? (i := 132) rfl) rfl
theorem q2_133 : (Cond.selects RX4 yX4_owedBy yX4_owedBy : Cond) ∈ lw_w := tb2 _ (List.mem_of_getElem? (i := 133) rfl) rfl
theorem q2_134 : (Cond.code yX4_owedBy cX4_owedBy 2 (some .int) : Cond) ∈ lw_w := tb2 _ (List.mem_of_getElem? (i := 134) rfl) rfl
theorem q2_135 : (Cond.methodLink RX4 31 yX4_sumOwed : Cond) ∈ lw_w := tb2 _ (List.mem_of_getElem? (i := 135) rfl) rfl
theorem q2_137 : (Cond.instanceMethod yX4_sumOwed : Cond) ∈ lw_w := tb2 _ (List.mem_of_getElem? (i := 137) rfl) rfl
theorem qs2 : (Cond.selects RX4 yX4_sumOwed yX4_sumOwed : Cond) ∈ lw_w := List.mem_filter.mpr ⟨List.mem_append_left _ (List.mem_of_getElem? (i := 2) rfl), rfl⟩
theorem q2_138 : (Cond.code yX4_sumOwed cX4_sumOwed 5 (some .int) : Cond) ∈ lw_w := tb2 _ (List.mem_of_getElem? (i := 138) rfl) rfl
theorem q1_80 : (Cond.fieldLink RX4 21 "MeterPool$Loans" "size" "I" : Cond) ∈ lw_w := tb1 _ (List.mem_of_getElem? (i := 80) rfl) rfl
theorem q3_30 : (Cond.methodLink RX6 194 yX4_owedTo : Cond) ∈ lw_w := tb3 _ (List.mem_of_getElem? (i := 30) rfl) rfl
theorem q3_31 : (Cond.instanceMethod yX4_owedTo : Cond) ∈ lw_w := tb3 _ (List.mem_of_getElem? (i := 31) rfl) rfl
theorem q3_32 : (Cond.selects RX4 yX4_owedTo yX4_owedTo : Cond) ∈ lw_w := tb3 _ (List.mem_of_getElem? (i := 32) rfl) rfl
theorem q3_33 : (Cond.code yX4_owedTo cX4_owedTo 2 (some .int) : Cond) ∈ lw_w := tb3 _ (List.mem_of_getElem? (i := 33) rfl) rfl
theorem q2_52 : (Cond.methodLink RX6 73 yX2_told : Cond) ∈ lw_w := tb2 _ (List.mem_of_getElem? (i := 52) rfl) rfl
theorem q2_53 : (Cond.instanceMethod yX2_told : Cond) ∈ lw_w := tb2 _ (List.mem_of_getElem? (i := 53) rfl) rfl
theorem q2_54 : (Cond.selects RX2 yX2_told yX2_told : Cond) ∈ lw_w := tb2 _ (List.mem_of_getElem? (i := 54) rfl) rfl
theorem q2_55 : (Cond.code yX2_told cX2_told 3 (some .int) : Cond) ∈ lw_w := tb2 _ (List.mem_of_getElem? (i := 55) rfl) rfl
theorem q2_177 : (Cond.methodLink RL 8 yL_draw : Cond) ∈ lw_w := tb2 _ (List.mem_of_getElem? (i := 177) rfl) rfl
theorem q2_178 : (Cond.static yL_draw : Cond) ∈ lw_w := tb2 _ (List.mem_of_getElem? (i := 178) rfl) rfl
theorem q2_179 : (Cond.code yL_draw cL_draw 4 (some .int) : Cond) ∈ lw_w := tb2 _ (List.mem_of_getElem? (i := 179) rfl) rfl
theorem q2_108 : (Cond.methodLink RL 22 yL_owes : Cond) ∈ lw_w := tb2 _ (List.mem_of_getElem? (i := 108) rfl) rfl
theorem q2_109 : (Cond.static yL_owes : Cond) ∈ lw_w := tb2 _ (List.mem_of_getElem? (i := 109) rfl) rfl
theorem q2_110 : (Cond.code yL_owes cL_owes 6 (some .int) : Cond) ∈ lw_w := tb2 _ (List.mem_of_getElem? (i := 110) rfl) rfl
theorem q3_34 : (Cond.methodLink RL 71 yX6_loan : Cond) ∈ lw_w := tb3 _ (List.mem_of_getElem? (i := 34) rfl) rfl
theorem q3_35 : (Cond.instanceMethod yX6_loan : Cond) ∈ lw_w := tb3 _ (List.mem_of_getElem? (i := 35) rfl) rfl
theorem q3_36 : (Cond.selects RX6 yX6_loan yX6_loan : Cond) ∈ lw_w := tb3 _ (List.mem_of_getElem? (i := 36) rfl) rfl
theorem q3_37 : (Cond.code yX6_loan cX6_loan 3 (some .int) : Cond) ∈ lw_w := tb3 _ (List.mem_of_getElem? (i := 37) rfl) rfl
theorem q3_38 : (Cond.methodLink RX6 107 yX6_isLoan : Cond) ∈ lw_w := tb3 _ (List.mem_of_getElem? (i := 38) rfl) rfl
theorem q3_40 : (Cond.instanceMethod yX6_isLoan : Cond) ∈ lw_w := tb3 _ (List.mem_of_getElem? (i := 40) rfl) rfl
theorem qs10 : (Cond.selects RX6 yX6_isLoan yX6_isLoan : Cond) ∈ lw_w := List.mem_filter.mpr ⟨List.mem_append_left _ (List.mem_of_getElem? (i := 10) rfl), rfl⟩
theorem q3_41 : (Cond.code yX6_isLoan cX6_isLoan 2 (some .boolean) : Cond) ∈ lw_w := tb3 _ (List.mem_of_getElem? (i := 41) rfl) rfl
theorem q1_81 : (Cond.fieldLink RX6 104 "MeterPool$Loans" "size" "I" : Cond) ∈ lw_w := tb1 _ (List.mem_of_getElem? (i := 81) rfl) rfl
theorem q3_42 : (Cond.methodLink RX6 197 yX4_told : Cond) ∈ lw_w := tb3 _ (List.mem_of_getElem? (i := 42) rfl) rfl
theorem q3_43 : (Cond.instanceMethod yX4_told : Cond) ∈ lw_w := tb3 _ (List.mem_of_getElem? (i := 43) rfl) rfl
theorem q3_44 : (Cond.selects RX4 yX4_told yX4_told : Cond) ∈ lw_w := tb3 _ (List.mem_of_getElem? (i := 44) rfl) rfl
theorem q3_45 : (Cond.code yX4_told cX4_told 3 (some .int) : Cond) ∈ lw_w := tb3 _ (List.mem_of_getElem? (i := 45) rfl) rfl
theorem q3_46 : (Cond.methodLink RL 74 yX6_battery : Cond) ∈ lw_w := tb3 _ (List.mem_of_getElem? (i := 46) rfl) rfl
theorem q3_47 : (Cond.instanceMethod yX6_battery : Cond) ∈ lw_w := tb3 _ (List.mem_of_getElem? (i := 47) rfl) rfl
theorem q3_48 : (Cond.selects RX6 yX6_battery yX6_battery : Cond) ∈ lw_w := tb3 _ (List.mem_of_getElem? (i := 48) rfl) rfl
theorem q3_49 : (Cond.code yX6_battery cX6_battery 3 (some .int) : Cond) ∈ lw_w := tb3 _ (List.mem_of_getElem? (i := 49) rfl) rfl
theorem q1_122 : (Cond.fieldLink RX6 136 "MeterPool$Village" "batteries" "LMeterPool$Batteries;" : Cond) ∈ lw_w := tb1 _ (List.mem_of_getElem? (i := 122) rfl) rfl
theorem q2_73 : (Cond.methodLink RX6 127 yX6_isBattery : Cond) ∈ lw_w := tb2 _ (List.mem_of_getElem? (i := 73) rfl) rfl
theorem q2_74 : (Cond.static yX6_isBattery : Cond) ∈ lw_w := tb2 _ (List.mem_of_getElem? (i := 74) rfl) rfl
theorem q2_75 : (Cond.code yX6_isBattery cX6_isBattery 1 (some .boolean) : Cond) ∈ lw_w := tb2 _ (List.mem_of_getElem? (i := 75) rfl) rfl
theorem q2_80 : (Cond.methodLink RX6 140 yX0_told : Cond) ∈ lw_w := tb2 _ (List.mem_of_getElem? (i := 80) rfl) rfl
theorem q2_81 : (Cond.instanceMethod yX0_told : Cond) ∈ lw_w := tb2 _ (List.mem_of_getElem? (i := 81) rfl) rfl
theorem q2_82 : (Cond.selects RX0 yX0_told yX0_told : Cond) ∈ lw_w := tb2 _ (List.mem_of_getElem? (i := 82) rfl) rfl
theorem q2_83 : (Cond.code yX0_told cX0_told 3 (some .int) : Cond) ∈ lw_w := tb2 _ (List.mem_of_getElem? (i := 83) rfl) rfl
theorem q2_84 : (Cond.methodLink RX0 30 yX0_canGive : Cond) ∈ lw_w := tb2 _ (List.mem_of_getElem? (i := 84) rfl) rfl
theorem q2_85 : (Cond.instanceMethod yX0_canGive : Cond) ∈ lw_w := tb2 _ (List.mem_of_getElem? (i := 85) rfl) rfl
theorem q2_86 : (Cond.selects RX0 yX0_canGive yX0_canGive : Cond) ∈ lw_w := tb2 _ (List.mem_of_getElem? (i := 86) rfl) rfl
theorem q2_87 : (Cond.code yX0_canGive cX0_canGive 2 (some .int) : Cond) ∈ lw_w := tb2 _ (List.mem_of_getElem? (i := 87) rfl) rfl
theorem q2_88 : (Cond.methodLink RX0 40 Lib.Math.min.name : Cond) ∈ lw_w := tb2 _ (List.mem_of_getElem? (i := 88) rfl) rfl
theorem q2_171 : (Cond.methodLink RL 14 yL_give : Cond) ∈ lw_w := tb2 _ (List.mem_of_getElem? (i := 171) rfl) rfl
theorem q2_172 : (Cond.static yL_give : Cond) ∈ lw_w := tb2 _ (List.mem_of_getElem? (i := 172) rfl) rfl
theorem q2_173 : (Cond.code yL_give cL_give 2 (some .int) : Cond) ∈ lw_w := tb2 _ (List.mem_of_getElem? (i := 173) rfl) rfl
theorem q3_50 : (Cond.methodLink RL 77 yX6_feeder : Cond) ∈ lw_w := tb3 _ (List.mem_of_getElem? (i := 50) rfl) rfl
theorem q3_51 : (Cond.instanceMethod yX6_feeder : Cond) ∈ lw_w := tb3 _ (List.mem_of_getElem? (i := 51) rfl) rfl
theorem q3_52 : (Cond.selects RX6 yX6_feeder yX6_feeder : Cond) ∈ lw_w := tb3 _ (List.mem_of_getElem? (i := 52) rfl) rfl
theorem q3_53 : (Cond.code yX6_feeder cX6_feeder 3 (some .int) : Cond) ∈ lw_w := tb3 _ (List.mem_of_getElem? (i := 53) rfl) rfl
theorem q1_41 : (Cond.fieldLink RX6 101 "MeterPool$Houses" "credit" "[I" : Cond) ∈ lw_w := tb1 _ (List.mem_of_getElem? (i := 41) rfl) rfl
theorem q1_128 : (Cond.fieldLink RX6 208 "MeterPool$Village" "shedHours" "[I" : Cond) ∈ lw_w := tb1 _ (List.mem_of_getElem? (i := 128) rfl) rfl
theorem q1_130 : (Cond.fieldLink RX6 211 "MeterPool$Village" "shedLatest" "[I" : Cond) ∈ lw_w := tb1 _ (List.mem_of_getElem? (i := 130) rfl) rfl
theorem q3_54 : (Cond.methodLink RX6 198 yX2_sizeOf : Cond) ∈ lw_w := tb3 _ (List.mem_of_getElem? (i := 54) rfl) rfl
theorem q3_55 : (Cond.instanceMethod yX2_sizeOf : Cond) ∈ lw_w := tb3 _ (List.mem_of_getElem? (i := 55) rfl) rfl
theorem q3_56 : (Cond.selects RX2 yX2_sizeOf yX2_sizeOf : Cond) ∈ lw_w := tb3 _ (List.mem_of_getElem? (i := 56) rfl) rfl
theorem q3_57 : (Cond.code yX2_sizeOf cX2_sizeOf 4 (some .int) : Cond) ∈ lw_w := tb3 _ (List.mem_of_getElem? (i := 57) rfl) rfl
theorem q1_30 : (Cond.fieldLink RX2 42 "MeterPool$Houses" "size" "I" : Cond) ∈ lw_w := tb1 _ (List.mem_of_getElem? (i := 30) rfl) rfl
theorem q3_58 : (Cond.methodLink RX6 201 yX2_drawnFrom : Cond) ∈ lw_w := tb3 _ (List.mem_of_getElem? (i := 58) rfl) rfl
theorem q3_59 : (Cond.instanceMethod yX2_drawnFrom : Cond) ∈ lw_w := tb3 _ (List.mem_of_getElem? (i := 59) rfl) rfl
theorem q3_60 : (Cond.selects RX2 yX2_drawnFrom yX2_drawnFrom : Cond) ∈ lw_w := tb3 _ (List.mem_of_getElem? (i := 60) rfl) rfl
theorem q3_61 : (Cond.code yX2_drawnFrom cX2_drawnFrom 5 (some .int) : Cond) ∈ lw_w := tb3 _ (List.mem_of_getElem? (i := 61) rfl) rfl
theorem q2_207 : (Cond.methodLink RX2 61 yX2_canDraw : Cond) ∈ lw_w := tb2 _ (List.mem_of_getElem? (i := 207) rfl) rfl
theorem q3_62 : (Cond.methodLink RX6 204 yX2_sumFrom : Cond) ∈ lw_w := tb3 _ (List.mem_of_getElem? (i := 62) rfl) rfl
theorem q2_222 : (Cond.instanceMethod yX2_sumFrom : Cond) ∈ lw_w := tb2 _ (List.mem_of_getElem? (i := 222) rfl) rfl
theorem q2_223 : (Cond.selects RX2 yX2_sumFrom yX2_sumFrom : Cond) ∈ lw_w := tb2 _ (List.mem_of_getElem? (i := 223) rfl) rfl
theorem q2_224 : (Cond.code yX2_sumFrom cX2_sumFrom 5 (some .int) : Cond) ∈ lw_w := tb2 _ (List.mem_of_getElem? (i := 224) rfl) rfl
theorem q2_174 : (Cond.methodLink RL 18 yL_wants : Cond) ∈ lw_w := tb2 _ (List.mem_of_getElem? (i := 174) rfl) rfl
theorem q2_175 : (Cond.static yL_wants : Cond) ∈ lw_w := tb2 _ (List.mem_of_getElem? (i := 175) rfl) rfl
theorem q2_176 : (Cond.code yL_wants cL_wants 6 (some .int) : Cond) ∈ lw_w := tb2 _ (List.mem_of_getElem? (i := 176) rfl) rfl
theorem q3_63 : (Cond.methodLink RL 80 yX6_account : Cond) ∈ lw_w := tb3 _ (List.mem_of_getElem? (i := 63) rfl) rfl
theorem q3_64 : (Cond.instanceMethod yX6_account : Cond) ∈ lw_w := tb3 _ (List.mem_of_getElem? (i := 64) rfl) rfl
theorem q3_65 : (Cond.selects RX6 yX6_account yX6_account : Cond) ∈ lw_w := tb3 _ (List.mem_of_getElem? (i := 65) rfl) rfl
theorem q3_66 : (Cond.code yX6_account cX6_account 2 (some .int) : Cond) ∈ lw_w := tb3 _ (List.mem_of_getElem? (i := 66) rfl) rfl
theorem q1_126 : (Cond.fieldLink RX6 144 "MeterPool$Village" "accounts" "[I" : Cond) ∈ lw_w := tb1 _ (List.mem_of_getElem? (i := 126) rfl) rfl
theorem q3_67 : (Cond.methodLink RX6 214 yX0_chargeOfAll : Cond) ∈ lw_w := tb3 _ (List.mem_of_getElem? (i := 67) rfl) rfl
theorem q3_68 : (Cond.instanceMethod yX0_chargeOfAll : Cond) ∈ lw_w := tb3 _ (List.mem_of_getElem? (i := 68) rfl) rfl
theorem q3_69 : (Cond.selects RX0 yX0_chargeOfAll yX0_chargeOfAll : Cond) ∈ lw_w := tb3 _ (List.mem_of_getElem? (i := 69) rfl) rfl
theorem q3_70 : (Cond.code yX0_chargeOfAll cX0_chargeOfAll 1 (some .int) : Cond) ∈ lw_w := tb3 _ (List.mem_of_getElem? (i := 70) rfl) rfl
theorem q3_71 : (Cond.methodLink RL 83 yX6_setting : Cond) ∈ lw_w := tb3 _ (List.mem_of_getElem? (i := 71) rfl) rfl
theorem q3_72 : (Cond.instanceMethod yX6_setting : Cond) ∈ lw_w := tb3 _ (List.mem_of_getElem? (i := 72) rfl) rfl
theorem q3_73 : (Cond.selects RX6 yX6_setting yX6_setting : Cond) ∈ lw_w := tb3 _ (List.mem_of_getElem? (i := 73) rfl) rfl
theorem q3_74 : (Cond.code yX6_setting cX6_setting 2 (some .int) : Cond) ∈ lw_w := tb3 _ (List.mem_of_getElem? (i := 74) rfl) rfl
theorem q2_64 : (Cond.methodLink RX6 118 yX6_isSetting : Cond) ∈ lw_w := tb2 _ (List.mem_of_getElem? (i := 64) rfl) rfl
theorem q2_65 : (Cond.static yX6_isSetting : Cond) ∈ lw_w := tb2 _ (List.mem_of_getElem? (i := 65) rfl) rfl
theorem q2_66 : (Cond.code yX6_isSetting cX6_isSetting 1 (some .boolean) : Cond) ∈ lw_w := tb2 _ (List.mem_of_getElem? (i := 66) rfl) rfl
theorem q3_75 : (Cond.methodLink RL 86 yX6_count : Cond) ∈ lw_w := tb3 _ (List.mem_of_getElem? (i := 75) rfl) rfl
theorem q3_76 : (Cond.instanceMethod yX6_count : Cond) ∈ lw_w := tb3 _ (List.mem_of_getElem? (i := 76) rfl) rfl
theorem q3_77 : (Cond.selects RX6 yX6_count yX6_count : Cond) ∈ lw_w := tb3 _ (List.mem_of_getElem? (i := 77) rfl) rfl
theorem q3_78 : (Cond.code yX6_count cX6_count 2 (some .int) : Cond) ∈ lw_w := tb3 _ (List.mem_of_getElem? (i := 78) rfl) rfl
theorem q1_135 : (Cond.fieldLink RX6 185 "MeterPool$Village" "hour" "I" : Cond) ∈ lw_w := tb1 _ (List.mem_of_getElem? (i := 135) rfl) rfl
theorem q1_133 : (Cond.fieldLink RX6 172 "MeterPool$Village" "listSize" "I" : Cond) ∈ lw_w := tb1 _ (List.mem_of_getElem? (i := 133) rfl) rfl
theorem q1_137 : (Cond.fieldLink RX6 220 "MeterPool$Village" "turn" "I" : Cond) ∈ lw_w := tb1 _ (List.mem_of_getElem? (i := 137) rfl) rfl
theorem q1_171 : (Cond.fieldLink RX6 175 "MeterPool$History" "size" "I" : Cond) ∈ lw_w := tb1 _ (List.mem_of_getElem? (i := 171) rfl) rfl
theorem q3_79 : (Cond.methodLink RX6 223 yX2_overdrawn : Cond) ∈ lw_w := tb3 _ (List.mem_of_getElem? (i := 79) rfl) rfl
theorem q3_80 : (Cond.instanceMethod yX2_overdrawn : Cond) ∈ lw_w := tb3 _ (List.mem_of_getElem? (i := 80) rfl) rfl
theorem q3_81 : (Cond.selects RX2 yX2_overdrawn yX2_overdrawn : Cond) ∈ lw_w := tb3 _ (List.mem_of_getElem? (i := 81) rfl) rfl
theorem q3_82 : (Cond.code yX2_overdrawn cX2_overdrawn 3 (some .int) : Cond) ∈ lw_w := tb3 _ (List.mem_of_getElem? (i := 82) rfl) rfl
theorem q3_83 : (Cond.methodLink RL 89 yX6_met : Cond) ∈ lw_w := tb3 _ (List.mem_of_getElem? (i := 83) rfl) rfl
theorem q3_84 : (Cond.instanceMethod yX6_met : Cond) ∈ lw_w := tb3 _ (List.mem_of_getElem? (i := 84) rfl) rfl
theorem q3_85 : (Cond.selects RX6 yX6_met yX6_met : Cond) ∈ lw_w := tb3 _ (List.mem_of_getElem? (i := 85) rfl) rfl
theorem q3_86 : (Cond.code yX6_met cX6_met 2 (some .double) : Cond) ∈ lw_w := tb3 _ (List.mem_of_getElem? (i := 86) rfl) rfl
theorem q1_36 : (Cond.fieldLink RX6 241 "MeterPool$Houses" "demand" "[I" : Cond) ∈ lw_w := tb1 _ (List.mem_of_getElem? (i := 36) rfl) rfl
theorem q1_44 : (Cond.fieldLink RX6 248 "MeterPool$Houses" "got" "[I" : Cond) ∈ lw_w := tb1 _ (List.mem_of_getElem? (i := 44) rfl) rfl
theorem q3_87 : (Cond.methodLink RX6 244 yX2_sum : Cond) ∈ lw_w := tb3 _ (List.mem_of_getElem? (i := 87) rfl) rfl
theorem q2_218 : (Cond.instanceMethod yX2_sum : Cond) ∈ lw_w := tb2 _ (List.mem_of_getElem? (i := 218) rfl) rfl
theorem q2_219 : (Cond.selects RX2 yX2_sum yX2_sum : Cond) ∈ lw_w := tb2 _ (List.mem_of_getElem? (i := 219) rfl) rfl
theorem q2_220 : (Cond.code yX2_sum cX2_sum 4 (some .int) : Cond) ∈ lw_w := tb2 _ (List.mem_of_getElem? (i := 220) rfl) rfl
theorem q1_219 : (Cond.methodLink RL 102 yL_cell : Cond) ∈ lw_w := tb1 _ (List.mem_of_getElem? (i := 219) rfl) rfl
theorem q1_220 : (Cond.static yL_cell : Cond) ∈ lw_w := tb1 _ (List.mem_of_getElem? (i := 220) rfl) rfl
theorem q1_221 : (Cond.code yL_cell cL_cell 2 (some .int) : Cond) ∈ lw_w := tb1 _ (List.mem_of_getElem? (i := 221) rfl) rfl
theorem q1_222 : (Cond.constant RL 7 (1541459225) : Cond) ∈ lw_w := tb1 _ (List.mem_of_getElem? (i := 222) rfl) rfl
theorem q1_223 : (Cond.methodLink RL 29 yL_at : Cond) ∈ lw_w := tb1 _ (List.mem_of_getElem? (i := 223) rfl) rfl
theorem q1_224 : (Cond.static yL_at : Cond) ∈ lw_w := tb1 _ (List.mem_of_getElem? (i := 224) rfl) rfl
theorem q1_225 : (Cond.code yL_at cL_at 2 (some .int) : Cond) ∈ lw_w := tb1 _ (List.mem_of_getElem? (i := 225) rfl) rfl
theorem q1_229 : (Cond.methodLink RL 106 yL_house : Cond) ∈ lw_w := tb1 _ (List.mem_of_getElem? (i := 229) rfl) rfl
theorem q1_230 : (Cond.static yL_house : Cond) ∈ lw_w := tb1 _ (List.mem_of_getElem? (i := 230) rfl) rfl
theorem q1_231 : (Cond.code yL_house cL_house 8 (some .boolean) : Cond) ∈ lw_w := tb1 _ (List.mem_of_getElem? (i := 231) rfl) rfl
theorem q1_232 : (Cond.methodLink RL 33 yX6_addHouse : Cond) ∈ lw_w := tb1 _ (List.mem_of_getElem? (i := 232) rfl) rfl
theorem q1_233 : (Cond.instanceMethod yX6_addHouse : Cond) ∈ lw_w := tb1 _ (List.mem_of_getElem? (i := 233) rfl) rfl
theorem q1_234 : (Cond.selects RX6 yX6_addHouse yX6_addHouse : Cond) ∈ lw_w := tb1 _ (List.mem_of_getElem? (i := 234) rfl) rfl
theorem q1_235 : (Cond.code yX6_addHouse cX6_addHouse 3 (some .int) : Cond) ∈ lw_w := tb1 _ (List.mem_of_getElem? (i := 235) rfl) rfl
theorem q2_0 : (Cond.constant RX6 56 (-1000004) : Cond) ∈ lw_w := tb2 _ (List.mem_of_getElem? (i := 0) rfl) rfl
theorem q2_1 : (Cond.methodLink RX6 57 yX1_record : Cond) ∈ lw_w := tb2 _ (List.mem_of_getElem? (i := 1) rfl) rfl
theorem q2_2 : (Cond.instanceMethod yX1_record : Cond) ∈ lw_w := tb2 _ (List.mem_of_getElem? (i := 2) rfl) rfl
theorem q2_3 : (Cond.selects RX1 yX1_record yX1_record : Cond) ∈ lw_w := tb2 _ (List.mem_of_getElem? (i := 3) rfl) rfl
theorem q2_4 : (Cond.code yX1_record cX1_record 2 none : Cond) ∈ lw_w := tb2 _ (List.mem_of_getElem? (i := 4) rfl) rfl
theorem q1_170 : (Cond.fieldLink RX1 18 "MeterPool$History" "size" "I" : Cond) ∈ lw_w := tb1 _ (List.mem_of_getElem? (i := 170) rfl) rfl
theorem q2_5 : (Cond.methodLink RX1 22 yX1_dropOldest : Cond) ∈ lw_w := tb2 _ (List.mem_of_getElem? (i := 5) rfl) rfl
theorem q2_7 : (Cond.instanceMethod yX1_dropOldest : Cond) ∈ lw_w := tb2 _ (List.mem_of_getElem? (i := 7) rfl) rfl
theorem qs0 : (Cond.selects RX1 yX1_dropOldest yX1_dropOldest : Cond) ∈ lw_w := List.mem_filter.mpr ⟨List.mem_append_left _ (List.mem_of_getElem? (i := 0) rfl), rfl⟩
theorem q2_8 : (Cond.code yX1_dropOldest cX1_dropOldest 3 none : Cond) ∈ lw_w := tb2 _ (List.mem_of_getElem? (i := 8) rfl) rfl
theorem q2_9 : (Cond.methodLink RX1 25 yX5_copy : Cond) ∈ lw_w := tb2 _ (List.mem_of_getElem? (i := 9) rfl) rfl
theorem q2_10 : (Cond.instanceMethod yX5_copy : Cond) ∈ lw_w := tb2 _ (List.mem_of_getElem? (i := 10) rfl) rfl
theorem q2_11 : (Cond.selects RX5 yX5_copy yX5_copy : Cond) ∈ lw_w := tb2 _ (List.mem_of_getElem? (i := 11) rfl) rfl
theorem q2_12 : (Cond.code yX5_copy cX5_copy 2 none : Cond) ∈ lw_w := tb2 _ (List.mem_of_getElem? (i := 12) rfl) rfl
theorem q2_30 : (Cond.methodLink RX5 68 arraycopyName : Cond) ∈ lw_w := tb2 _ (List.mem_of_getElem? (i := 30) rfl) rfl
theorem q2_19 : (Cond.native arraycopyName : Cond) ∈ lw_w := tb2 _ (List.mem_of_getElem? (i := 19) rfl) rfl
theorem q2_18 : (Cond.static arraycopyName : Cond) ∈ lw_w := tb2 _ (List.mem_of_getElem? (i := 18) rfl) rfl
theorem q1_9 : (Cond.initialized "java/lang/System" : Cond) ∈ lw_w := tb1 _ (List.mem_of_getElem? (i := 9) rfl) rfl
theorem q2_13 : (Cond.methodLink RX5 58 yX2_copy : Cond) ∈ lw_w := tb2 _ (List.mem_of_getElem? (i := 13) rfl) rfl
theorem q2_14 : (Cond.instanceMethod yX2_copy : Cond) ∈ lw_w := tb2 _ (List.mem_of_getElem? (i := 14) rfl) rfl
theorem q2_15 : (Cond.selects RX2 yX2_copy yX2_copy : Cond) ∈ lw_w := tb2 _ (List.mem_of_getElem? (i := 15) rfl) rfl
theorem q2_16 : (Cond.code yX2_copy cX2_copy 2 none : Cond) ∈ lw_w := tb2 _ (List.mem_of_getElem? (i := 16) rfl) rfl
theorem q2_17 : (Cond.methodLink RX2 46 arraycopyName : Cond) ∈ lw_w := tb2 _ (List.mem_of_getElem? (i := 17) rfl) rfl
theorem q2_20 : (Cond.methodLink RX5 62 yX4_copy : Cond) ∈ lw_w := tb2 _ (List.mem_of_getElem? (i := 20) rfl) rfl
theorem q2_21 : (Cond.instanceMethod yX4_copy : Cond) ∈ lw_w := tb2 _ (List.mem_of_getElem? (i := 21) rfl) rfl
theorem q2_22 : (Cond.selects RX4 yX4_copy yX4_copy : Cond) ∈ lw_w := tb2 _ (List.mem_of_getElem? (i := 22) rfl) rfl
theorem q2_23 : (Cond.code yX4_copy cX4_copy 2 none : Cond) ∈ lw_w := tb2 _ (List.mem_of_getElem? (i := 23) rfl) rfl
theorem q2_24 : (Cond.methodLink RX4 25 arraycopyName : Cond) ∈ lw_w := tb2 _ (List.mem_of_getElem? (i := 24) rfl) rfl
theorem q2_25 : (Cond.methodLink RX5 65 yX0_copy : Cond) ∈ lw_w := tb2 _ (List.mem_of_getElem? (i := 25) rfl) rfl
theorem q2_26 : (Cond.instanceMethod yX0_copy : Cond) ∈ lw_w := tb2 _ (List.mem_of_getElem? (i := 26) rfl) rfl
theorem q2_27 : (Cond.selects RX0 yX0_copy yX0_copy : Cond) ∈ lw_w := tb2 _ (List.mem_of_getElem? (i := 27) rfl) rfl
theorem q2_28 : (Cond.code yX0_copy cX0_copy 2 none : Cond) ∈ lw_w := tb2 _ (List.mem_of_getElem? (i := 28) rfl) rfl
theorem q2_29 : (Cond.methodLink RX0 24 arraycopyName : Cond) ∈ lw_w := tb2 _ (List.mem_of_getElem? (i := 29) rfl) rfl
theorem q2_31 : (Cond.methodLink RX5 74 yX5_takeList : Cond) ∈ lw_w := tb2 _ (List.mem_of_getElem? (i := 31) rfl) rfl
theorem q2_32 : (Cond.instanceMethod yX5_takeList : Cond) ∈ lw_w := tb2 _ (List.mem_of_getElem? (i := 32) rfl) rfl
theorem q2_33 : (Cond.selects RX5 yX5_takeList yX5_takeList : Cond) ∈ lw_w := tb2 _ (List.mem_of_getElem? (i := 33) rfl) rfl
theorem q2_34 : (Cond.code yX5_takeList cX5_takeList 3 none : Cond) ∈ lw_w := tb2 _ (List.mem_of_getElem? (i := 34) rfl) rfl
theorem q2_35 : (Cond.methodLink RX6 61 yX2_add : Cond) ∈ lw_w := tb2 _ (List.mem_of_getElem? (i := 35) rfl) rfl
theorem q2_36 : (Cond.instanceMethod yX2_add : Cond) ∈ lw_w := tb2 _ (List.mem_of_getElem? (i := 36) rfl) rfl
theorem q2_37 : (Cond.selects RX2 yX2_add yX2_add : Cond) ∈ lw_w := tb2 _ (List.mem_of_getElem? (i := 37) rfl) rfl
theorem q2_38 : (Cond.code yX2_add cX2_add 4 (some .int) : Cond) ∈ lw_w := tb2 _ (List.mem_of_getElem? (i := 38) rfl) rfl
theorem q2_39 : (Cond.methodLink RL 109 yL_set : Cond) ∈ lw_w := tb2 _ (List.mem_of_getElem? (i := 39) rfl) rfl
theorem q2_40 : (Cond.static yL_set : Cond) ∈ lw_w := tb2 _ (List.mem_of_getElem? (i := 40) rfl) rfl
theorem q2_41 : (Cond.code yL_set cL_set 11 (some .boolean) : Cond) ∈ lw_w := tb2 _ (List.mem_of_getElem? (i := 41) rfl) rfl
theorem q2_42 : (Cond.methodLink RL 38 yX6_setHouse : Cond) ∈ lw_w := tb2 _ (List.mem_of_getElem? (i := 42) rfl) rfl
theorem q2_43 : (Cond.instanceMethod yX6_setHouse : Cond) ∈ lw_w := tb2 _ (List.mem_of_getElem? (i := 43) rfl) rfl
theorem q2_44 : (Cond.selects RX6 yX6_setHouse yX6_setHouse : Cond) ∈ lw_w := tb2 _ (List.mem_of_getElem? (i := 44) rfl) rfl
theorem q2_45 : (Cond.code yX6_setHouse cX6_setHouse 5 (some .int) : Cond) ∈ lw_w := tb2 _ (List.mem_of_getElem? (i := 45) rfl) rfl
theorem q2_50 : (Cond.fieldLink RX6 69 "MeterPool" "HOUSE_MOST" "[I" : Cond) ∈ lw_w := tb2 _ (List.mem_of_getElem? (i := 50) rfl) rfl
theorem q2_56 : (Cond.methodLink RX6 76 yX2_change : Cond) ∈ lw_w := tb2 _ (List.mem_of_getElem? (i := 56) rfl) rfl
theorem q2_57 : (Cond.instanceMethod yX2_change : Cond) ∈ lw_w := tb2 _ (List.mem_of_getElem? (i := 57) rfl) rfl
theorem q2_58 : (Cond.selects RX2 yX2_change yX2_change : Cond) ∈ lw_w := tb2 _ (List.mem_of_getElem? (i := 58) rfl) rfl
theorem q2_59 : (Cond.code yX2_change cX2_change 4 none : Cond) ∈ lw_w := tb2 _ (List.mem_of_getElem? (i := 59) rfl) rfl
theorem q2_60 : (Cond.methodLink RL 42 yX6_set : Cond) ∈ lw_w := tb2 _ (List.mem_of_getElem? (i := 60) rfl) rfl
theorem q2_61 : (Cond.instanceMethod yX6_set : Cond) ∈ lw_w := tb2 _ (List.mem_of_getElem? (i := 61) rfl) rfl
theorem q2_62 : (Cond.selects RX6 yX6_set yX6_set : Cond) ∈ lw_w := tb2 _ (List.mem_of_getElem? (i := 62) rfl) rfl
theorem q2_63 : (Cond.code yX6_set cX6_set 4 (some .int) : Cond) ∈ lw_w := tb2 _ (List.mem_of_getElem? (i := 63) rfl) rfl
theorem q2_67 : (Cond.fieldLink RX6 121 "MeterPool" "SETTING_MOST" "[I" : Cond) ∈ lw_w := tb2 _ (List.mem_of_getElem? (i := 67) rfl) rfl
theorem q2_69 : (Cond.methodLink RL 45 yX6_setBattery : Cond) ∈ lw_w := tb2 _ (List.mem_of_getElem? (i := 69) rfl) rfl
theorem q2_70 : (Cond.instanceMethod yX6_setBattery : Cond) ∈ lw_w := tb2 _ (List.mem_of_getElem? (i := 70) rfl) rfl
theorem q2_71 : (Cond.selects RX6 yX6_setBattery yX6_setBattery : Cond) ∈ lw_w := tb2 _ (List.mem_of_getElem? (i := 71) rfl) rfl
theorem q2_72 : (Cond.code yX6_setBattery cX6_setBattery 5 (some .int) : Cond) ∈ lw_w := tb2 _ (List.mem_of_getElem? (i := 72) rfl) rfl
theorem q2_76 : (Cond.fieldLink RX6 130 "MeterPool" "BATTERY_LEAST" "[I" : Cond) ∈ lw_w := tb2 _ (List.mem_of_getElem? (i := 76) rfl) rfl
theorem q2_78 : (Cond.fieldLink RX6 133 "MeterPool" "BATTERY_MOST" "[I" : Cond) ∈ lw_w := tb2 _ (List.mem_of_getElem? (i := 78) rfl) rfl
theorem q2_91 : (Cond.methodLink RX6 143 yX0_change : Cond) ∈ lw_w := tb2 _ (List.mem_of_getElem? (i := 91) rfl) rfl
theorem q2_92 : (Cond.instanceMethod yX0_change : Cond) ∈ lw_w := tb2 _ (List.mem_of_getElem? (i := 92) rfl) rfl
theorem q2_93 : (Cond.selects RX0 yX0_change yX0_change : Cond) ∈ lw_w := tb2 _ (List.mem_of_getElem? (i := 93) rfl) rfl
theorem q2_94 : (Cond.code yX0_change cX0_change 4 none : Cond) ∈ lw_w := tb2 _ (List.mem_of_getElem? (i := 94) rfl) rfl
theorem q2_95 : (Cond.methodLink RX6 147 yX0_discardExcess : Cond) ∈ lw_w := tb2 _ (List.mem_of_getElem? (i := 95) rfl) rfl
theorem q2_96 : (Cond.instanceMethod yX0_discardExcess : Cond) ∈ lw_w := tb2 _ (List.mem_of_getElem? (i := 96) rfl) rfl
theorem q2_97 : (Cond.selects RX0 yX0_discardExcess yX0_discardExcess : Cond) ∈ lw_w := tb2 _ (List.mem_of_getElem? (i := 97) rfl) rfl
theorem q2_98 : (Cond.code yX0_discardExcess cX0_discardExcess 3 (some .int) : Cond) ∈ lw_w := tb2 _ (List.mem_of_getElem? (i := 98) rfl) rfl
theorem q2_99 : (Cond.methodLink RX0 34 Lib.Math.max.name : Cond) ∈ lw_w := tb2 _ (List.mem_of_getElem? (i := 99) rfl) rfl
theorem q2_102 : (Cond.methodLink RL 111 yL_buy : Cond) ∈ lw_w := tb2 _ (List.mem_of_getElem? (i := 102) rfl) rfl
theorem q2_103 : (Cond.static yL_buy : Cond) ∈ lw_w := tb2 _ (List.mem_of_getElem? (i := 103) rfl) rfl
theorem q2_104 : (Cond.code yL_buy cL_buy 8 (some .boolean) : Cond) ∈ lw_w := tb2 _ (List.mem_of_getElem? (i := 104) rfl) rfl
theorem q2_105 : (Cond.methodLink RL 48 yL_token : Cond) ∈ lw_w := tb2 _ (List.mem_of_getElem? (i := 105) rfl) rfl
theorem q2_106 : (Cond.static yL_token : Cond) ∈ lw_w := tb2 _ (List.mem_of_getElem? (i := 106) rfl) rfl
theorem q2_107 : (Cond.code yL_token cL_token 10 none : Cond) ∈ lw_w := tb2 _ (List.mem_of_getElem? (i := 107) rfl) rfl
theorem q2_111 : (Cond.methodLink RL 25 yL_drop : Cond) ∈ lw_w := tb2 _ (List.mem_of_getElem? (i := 111) rfl) rfl
theorem q2_112 : (Cond.static yL_drop : Cond) ∈ lw_w := tb2 _ (List.mem_of_getElem? (i := 112) rfl) rfl
theorem q2_113 : (Cond.code yL_drop cL_drop 4 none : Cond) ∈ lw_w := tb2 _ (List.mem_of_getElem? (i := 113) rfl) rfl
theorem q2_114 : (Cond.methodLink RL 52 yX6_buy : Cond) ∈ lw_w := tb2 _ (List.mem_of_getElem? (i := 114) rfl) rfl
theorem q2_115 : (Cond.instanceMethod yX6_buy : Cond) ∈ lw_w := tb2 _ (List.mem_of_getElem? (i := 115) rfl) rfl
theorem q2_116 : (Cond.selects RX6 yX6_buy yX6_buy : Cond) ∈ lw_w := tb2 _ (List.mem_of_getElem? (i := 116) rfl) rfl
theorem q2_117 : (Cond.code yX6_buy cX6_buy 3 (some .int) : Cond) ∈ lw_w := tb2 _ (List.mem_of_getElem? (i := 117) rfl) rfl
theorem q2_118 : (Cond.methodLink RX6 97 yX5_takeToken : Cond) ∈ lw_w := tb2 _ (List.mem_of_getElem? (i := 118) rfl) rfl
theorem q2_119 : (Cond.instanceMethod yX5_takeToken : Cond) ∈ lw_w := tb2 _ (List.mem_of_getElem? (i := 119) rfl) rfl
theorem q2_120 : (Cond.selects RX5 yX5_takeToken yX5_takeToken : Cond) ∈ lw_w := tb2 _ (List.mem_of_getElem? (i := 120) rfl) rfl
theorem q2_121 : (Cond.code yX5_takeToken cX5_takeToken 5 none : Cond) ∈ lw_w := tb2 _ (List.mem_of_getElem? (i := 121) rfl) rfl
theorem q1_38 : (Cond.fieldLink RX5 84 "MeterPool$Houses" "debt" "[I" : Cond) ∈ lw_w := tb1 _ (List.mem_of_getElem? (i := 38) rfl) rfl
theorem q1_42 : (Cond.fieldLink RX5 104 "MeterPool$Houses" "credit" "[I" : Cond) ∈ lw_w := tb1 _ (List.mem_of_getElem? (i := 42) rfl) rfl
theorem q2_122 : (Cond.methodLink RX5 90 yX5_partForDebt : Cond) ∈ lw_w := tb2 _ (List.mem_of_getElem? (i := 122) rfl) rfl
theorem q2_123 : (Cond.instanceMethod yX5_partForDebt : Cond) ∈ lw_w := tb2 _ (List.mem_of_getElem? (i := 123) rfl) rfl
theorem q2_124 : (Cond.selects RX5 yX5_partForDebt yX5_partForDebt : Cond) ∈ lw_w := tb2 _ (List.mem_of_getElem? (i := 124) rfl) rfl
theorem q2_125 : (Cond.code yX5_partForDebt cX5_partForDebt 3 (some .int) : Cond) ∈ lw_w := tb2 _ (List.mem_of_getElem? (i := 125) rfl) rfl
theorem q2_126 : (Cond.methodLink RX5 87 Lib.Math.min.name : Cond) ∈ lw_w := tb2 _ (List.mem_of_getElem? (i := 126) rfl) rfl
theorem q2_127 : (Cond.methodLink RX5 97 yX5_partForLoans : Cond) ∈ lw_w := tb2 _ (List.mem_of_getElem? (i := 127) rfl) rfl
theorem q2_128 : (Cond.instanceMethod yX5_partForLoans : Cond) ∈ lw_w := tb2 _ (List.mem_of_getElem? (i := 128) rfl) rfl
theorem q2_129 : (Cond.selects RX5 yX5_partForLoans yX5_partForLoans : Cond) ∈ lw_w := tb2 _ (List.mem_of_getElem? (i := 129) rfl) rfl
theorem q2_130 : (Cond.code yX5_partForLoans cX5_partForLoans 4 (some .int) : Cond) ∈ lw_w := tb2 _ (List.mem_of_getElem? (i := 130) rfl) rfl
theorem q2_131 : (Cond.methodLink RX5 93 yX4_owedBy : Cond) ∈ lw_w := tb2 _ (List.mem_of_getElem? (i := 131) rfl) rfl
theorem q2_139 : (Cond.methodLink RX5 100 yX5_payLoans : Cond) ∈ lw_w := tb2 _ (List.mem_of_getElem? (i := 139) rfl) rfl
theorem q2_141 : (Cond.instanceMethod yX5_payLoans : Cond) ∈ lw_w := tb2 _ (List.mem_of_getElem? (i := 141) rfl) rfl
theorem qs3 : (Cond.selects RX5 yX5_payLoans yX5_payLoans : Cond) ∈ lw_w := List.mem_filter.mpr ⟨List.mem_append_left _ (List.mem_of_getElem? (i := 3) rfl), rfl⟩
theorem q2_142 : (Cond.code yX5_payLoans cX5_payLoans 6 none : Cond) ∈ lw_w := tb2 _ (List.mem_of_getElem? (i := 142) rfl) rfl
theorem q1_82 : (Cond.fieldLink RX5 107 "MeterPool$Loans" "size" "I" : Cond) ∈ lw_w := tb1 _ (List.mem_of_getElem? (i := 82) rfl) rfl
theorem q1_86 : (Cond.fieldLink RX5 110 "MeterPool$Loans" "borrower" "[I" : Cond) ∈ lw_w := tb1 _ (List.mem_of_getElem? (i := 86) rfl) rfl
theorem q1_88 : (Cond.fieldLink RX5 113 "MeterPool$Loans" "owed" "[I" : Cond) ∈ lw_w := tb1 _ (List.mem_of_getElem? (i := 88) rfl) rfl
theorem q1_84 : (Cond.fieldLink RX5 116 "MeterPool$Loans" "lender" "[I" : Cond) ∈ lw_w := tb1 _ (List.mem_of_getElem? (i := 84) rfl) rfl
theorem q2_143 : (Cond.methodLink RX5 119 yX4_removePaid : Cond) ∈ lw_w := tb2 _ (List.mem_of_getElem? (i := 143) rfl) rfl
theorem q2_144 : (Cond.instanceMethod yX4_removePaid : Cond) ∈ lw_w := tb2 _ (List.mem_of_getElem? (i := 144) rfl) rfl
theorem q2_145 : (Cond.selects RX4 yX4_removePaid yX4_removePaid : Cond) ∈ lw_w := tb2 _ (List.mem_of_getElem? (i := 145) rfl) rfl
theorem q2_146 : (Cond.code yX4_removePaid cX4_removePaid 2 none : Cond) ∈ lw_w := tb2 _ (List.mem_of_getElem? (i := 146) rfl) rfl
theorem q2_147 : (Cond.methodLink RX4 35 yX4_remove : Cond) ∈ lw_w := tb2 _ (List.mem_of_getElem? (i := 147) rfl) rfl
theorem q2_148 : (Cond.instanceMethod yX4_remove : Cond) ∈ lw_w := tb2 _ (List.mem_of_getElem? (i := 148) rfl) rfl
theorem q2_149 : (Cond.selects RX4 yX4_remove yX4_remove : Cond) ∈ lw_w := tb2 _ (List.mem_of_getElem? (i := 149) rfl) rfl
theorem q2_150 : (Cond.code yX4_remove cX4_remove 3 none : Cond) ∈ lw_w := tb2 _ (List.mem_of_getElem? (i := 150) rfl) rfl
theorem q2_151 : (Cond.methodLink RL 113 yL_lend : Cond) ∈ lw_w := tb2 _ (List.mem_of_getElem? (i := 151) rfl) rfl
theorem q2_152 : (Cond.static yL_lend : Cond) ∈ lw_w := tb2 _ (List.mem_of_getElem? (i := 152) rfl) rfl
theorem q2_153 : (Cond.code yL_lend cL_lend 10 (some .boolean) : Cond) ∈ lw_w := tb2 _ (List.mem_of_getElem? (i := 153) rfl) rfl
theorem q2_163 : (Cond.constant RL 58 (-1000002) : Cond) ∈ lw_w := tb2 _ (List.mem_of_getElem? (i := 163) rfl) rfl
theorem q2_164 : (Cond.constant RL 59 (-1000003) : Cond) ∈ lw_w := tb2 _ (List.mem_of_getElem? (i := 164) rfl) rfl
theorem q2_154 : (Cond.methodLink RL 55 yX6_lend : Cond) ∈ lw_w := tb2 _ (List.mem_of_getElem? (i := 154) rfl) rfl
theorem q2_155 : (Cond.instanceMethod yX6_lend : Cond) ∈ lw_w := tb2 _ (List.mem_of_getElem? (i := 155) rfl) rfl
theorem q2_156 : (Cond.selects RX6 yX6_lend yX6_lend : Cond) ∈ lw_w := tb2 _ (List.mem_of_getElem? (i := 156) rfl) rfl
theorem q2_157 : (Cond.code yX6_lend cX6_lend 4 (some .int) : Cond) ∈ lw_w := tb2 _ (List.mem_of_getElem? (i := 157) rfl) rfl
theorem q2_158 : (Cond.constant RX6 89 (-1000003) : Cond) ∈ lw_w := tb2 _ (List.mem_of_getElem? (i := 158) rfl) rfl
theorem q2_159 : (Cond.methodLink RX6 105 yX4_add : Cond) ∈ lw_w := tb2 _ (List.mem_of_getElem? (i := 159) rfl) rfl
theorem q2_160 : (Cond.instanceMethod yX4_add : Cond) ∈ lw_w := tb2 _ (List.mem_of_getElem? (i := 160) rfl) rfl
theorem q2_161 : (Cond.selects RX4 yX4_add yX4_add : Cond) ∈ lw_w := tb2 _ (List.mem_of_getElem? (i := 161) rfl) rfl
theorem q2_162 : (Cond.code yX4_add cX4_add 4 none : Cond) ∈ lw_w := tb2 _ (List.mem_of_getElem? (i := 162) rfl) rfl
theorem q2_165 : (Cond.methodLink RL 115 yL_run : Cond) ∈ lw_w := tb2 _ (List.mem_of_getElem? (i := 165) rfl) rfl
theorem q2_166 : (Cond.static yL_run : Cond) ∈ lw_w := tb2 _ (List.mem_of_getElem? (i := 166) rfl) rfl
theorem q2_167 : (Cond.code yL_run cL_run 10 (some .boolean) : Cond) ∈ lw_w := tb2 _ (List.mem_of_getElem? (i := 167) rfl) rfl
theorem q2_168 : (Cond.methodLink RL 60 yL_hour : Cond) ∈ lw_w := tb2 _ (List.mem_of_getElem? (i := 168) rfl) rfl
theorem q2_169 : (Cond.static yL_hour : Cond) ∈ lw_w := tb2 _ (List.mem_of_getElem? (i := 169) rfl) rfl
theorem q2_170 : (Cond.code yL_hour cL_hour 14 none : Cond) ∈ lw_w := tb2 _ (List.mem_of_getElem? (i := 170) rfl) rfl
theorem q2_180 : (Cond.methodLink RL 64 yX6_run : Cond) ∈ lw_w := tb2 _ (List.mem_of_getElem? (i := 180) rfl) rfl
theorem q2_181 : (Cond.instanceMethod yX6_run : Cond) ∈ lw_w := tb2 _ (List.mem_of_getElem? (i := 181) rfl) rfl
theorem q2_182 : (Cond.selects RX6 yX6_run yX6_run : Cond) ∈ lw_w := tb2 _ (List.mem_of_getElem? (i := 182) rfl) rfl
theorem q2_183 : (Cond.code yX6_run cX6_run 3 (some .int) : Cond) ∈ lw_w := tb2 _ (List.mem_of_getElem? (i := 183) rfl) rfl
theorem q2_184 : (Cond.methodLink RX6 151 yX5_passHours : Cond) ∈ lw_w := tb2 _ (List.mem_of_getElem? (i := 184) rfl) rfl
theorem q2_185 : (Cond.instanceMethod yX5_passHours : Cond) ∈ lw_w := tb2 _ (List.mem_of_getElem? (i := 185) rfl) rfl
theorem q2_186 : (Cond.selects RX5 yX5_passHours yX5_passHours : Cond) ∈ lw_w := tb2 _ (List.mem_of_getElem? (i := 186) rfl) rfl
theorem q2_187 : (Cond.code yX5_passHours cX5_passHours 3 none : Cond) ∈ lw_w := tb2 _ (List.mem_of_getElem? (i := 187) rfl) rfl
theorem q2_188 : (Cond.methodLink RX5 125 yX5_passHour : Cond) ∈ lw_w := tb2 _ (List.mem_of_getElem? (i := 188) rfl) rfl
theorem q2_190 : (Cond.instanceMethod yX5_passHour : Cond) ∈ lw_w := tb2 _ (List.mem_of_getElem? (i := 190) rfl) rfl
theorem qs4 : (Cond.selects RX5 yX5_passHour yX5_passHour : Cond) ∈ lw_w := List.mem_filter.mpr ⟨List.mem_append_left _ (List.mem_of_getElem? (i := 4) rfl), rfl⟩
theorem q2_191 : (Cond.code yX5_passHour cX5_passHour 4 none : Cond) ∈ lw_w := tb2 _ (List.mem_of_getElem? (i := 191) rfl) rfl
theorem q2_192 : (Cond.methodLink RX5 131 yX5_supplyOf : Cond) ∈ lw_w := tb2 _ (List.mem_of_getElem? (i := 192) rfl) rfl
theorem q2_193 : (Cond.instanceMethod yX5_supplyOf : Cond) ∈ lw_w := tb2 _ (List.mem_of_getElem? (i := 193) rfl) rfl
theorem q2_194 : (Cond.selects RX5 yX5_supplyOf yX5_supplyOf : Cond) ∈ lw_w := tb2 _ (List.mem_of_getElem? (i := 194) rfl) rfl
theorem q2_195 : (Cond.code yX5_supplyOf cX5_supplyOf 2 (some .int) : Cond) ∈ lw_w := tb2 _ (List.mem_of_getElem? (i := 195) rfl) rfl
theorem q2_196 : (Cond.methodLink RX5 78 yJ9_floorMod_7cf53 : Cond) ∈ lw_w := tb2 _ (List.mem_of_getElem? (i := 196) rfl) rfl
theorem q2_197 : (Cond.static yJ9_floorMod_7cf53 : Cond) ∈ lw_w := tb2 _ (List.mem_of_getElem? (i := 197) rfl) rfl
theorem q2_198 : (Cond.code yJ9_floorMod_7cf53 cJ9_floorMod_7cf53 3 (some .int) : Cond) ∈ lw_w := tb2 _ (List.mem_of_getElem? (i := 198) rfl) rfl
theorem q2_199 : (Cond.methodLink RX5 134 yX0_canGiveAll : Cond) ∈ lw_w := tb2 _ (List.mem_of_getElem? (i := 199) rfl) rfl
theorem q2_200 : (Cond.instanceMethod yX0_canGiveAll : Cond) ∈ lw_w := tb2 _ (List.mem_of_getElem? (i := 200) rfl) rfl
theorem q2_201 : (Cond.selects RX0 yX0_canGiveAll yX0_canGiveAll : Cond) ∈ lw_w := tb2 _ (List.mem_of_getElem? (i := 201) rfl) rfl
theorem q2_202 : (Cond.code yX0_canGiveAll cX0_canGiveAll 1 (some .int) : Cond) ∈ lw_w := tb2 _ (List.mem_of_getElem? (i := 202) rfl) rfl
theorem q2_203 : (Cond.methodLink RX5 138 yX2_wantAll : Cond) ∈ lw_w := tb2 _ (List.mem_of_getElem? (i := 203) rfl) rfl
theorem q2_204 : (Cond.instanceMethod yX2_wantAll : Cond) ∈ lw_w := tb2 _ (List.mem_of_getElem? (i := 204) rfl) rfl
theorem q2_205 : (Cond.selects RX2 yX2_wantAll yX2_wantAll : Cond) ∈ lw_w := tb2 _ (List.mem_of_getElem? (i := 205) rfl) rfl
theorem q2_206 : (Cond.code yX2_wantAll cX2_wantAll 3 none : Cond) ∈ lw_w := tb2 _ (List.mem_of_getElem? (i := 206) rfl) rfl
theorem q2_213 : (Cond.methodLink RX5 142 yX5_shed : Cond) ∈ lw_w := tb2 _ (List.mem_of_getElem? (i := 213) rfl) rfl
theorem q2_215 : (Cond.instanceMethod yX5_shed : Cond) ∈ lw_w := tb2 _ (List.mem_of_getElem? (i := 215) rfl) rfl
theorem qs5 : (Cond.selects RX5 yX5_shed yX5_shed : Cond) ∈ lw_w := List.mem_filter.mpr ⟨List.mem_append_left _ (List.mem_of_getElem? (i := 5) rfl), rfl⟩
theorem q2_216 : (Cond.code yX5_shed cX5_shed 3 none : Cond) ∈ lw_w := tb2 _ (List.mem_of_getElem? (i := 216) rfl) rfl
theorem q1_49 : (Cond.fieldLink RX5 154 "MeterPool$Houses" "wants" "[I" : Cond) ∈ lw_w := tb1 _ (List.mem_of_getElem? (i := 49) rfl) rfl
theorem q2_217 : (Cond.methodLink RX5 157 yX2_sum : Cond) ∈ lw_w := tb2 _ (List.mem_of_getElem? (i := 217) rfl) rfl
theorem q2_221 : (Cond.methodLink RX5 161 yX2_sumFrom : Cond) ∈ lw_w := tb2 _ (List.mem_of_getElem? (i := 221) rfl) rfl
theorem q2_225 : (Cond.methodLink RX5 165 yX2_wantNothing : Cond) ∈ lw_w := tb2 _ (List.mem_of_getElem? (i := 225) rfl) rfl
theorem q2_226 : (Cond.instanceMethod yX2_wantNothing : Cond) ∈ lw_w := tb2 _ (List.mem_of_getElem? (i := 226) rfl) rfl
theorem q2_227 : (Cond.selects RX2 yX2_wantNothing yX2_wantNothing : Cond) ∈ lw_w := tb2 _ (List.mem_of_getElem? (i := 227) rfl) rfl
theorem q2_228 : (Cond.code yX2_wantNothing cX2_wantNothing 3 none : Cond) ∈ lw_w := tb2 _ (List.mem_of_getElem? (i := 228) rfl) rfl
theorem q2_229 : (Cond.methodLink RX5 145 yX5_serve : Cond) ∈ lw_w := tb2 _ (List.mem_of_getElem? (i := 229) rfl) rfl
theorem q2_231 : (Cond.instanceMethod yX5_serve : Cond) ∈ lw_w := tb2 _ (List.mem_of_getElem? (i := 231) rfl) rfl
theorem qs6 : (Cond.selects RX5 yX5_serve yX5_serve : Cond) ∈ lw_w := List.mem_filter.mpr ⟨List.mem_append_left _ (List.mem_of_getElem? (i := 6) rfl), rfl⟩
theorem q2_232 : (Cond.code yX5_serve cX5_serve 6 (some .int) : Cond) ∈ lw_w := tb2 _ (List.mem_of_getElem? (i := 232) rfl) rfl
theorem q1_32 : (Cond.fieldLink RX5 168 "MeterPool$Houses" "size" "I" : Cond) ∈ lw_w := tb1 _ (List.mem_of_getElem? (i := 32) rfl) rfl
theorem q1_34 : (Cond.fieldLink RX5 169 "MeterPool$Houses" "feeder" "[I" : Cond) ∈ lw_w := tb1 _ (List.mem_of_getElem? (i := 34) rfl) rfl
theorem q2_233 : (Cond.methodLink RX5 172 yX5_partOf : Cond) ∈ lw_w := tb2 _ (List.mem_of_getElem? (i := 233) rfl) rfl
theorem q2_235 : (Cond.instanceMethod yX5_partOf : Cond) ∈ lw_w := tb2 _ (List.mem_of_getElem? (i := 235) rfl) rfl
theorem qs7 : (Cond.selects RX5 yX5_partOf yX5_partOf : Cond) ∈ lw_w := List.mem_filter.mpr ⟨List.mem_append_left _ (List.mem_of_getElem? (i := 7) rfl), rfl⟩
theorem q2_236 : (Cond.code yX5_partOf cX5_partOf 3 (some .int) : Cond) ∈ lw_w := tb2 _ (List.mem_of_getElem? (i := 236) rfl) rfl
theorem q2_237 : (Cond.methodLink RX5 175 yX2_receive : Cond) ∈ lw_w := tb2 _ (List.mem_of_getElem? (i := 237) rfl) rfl
theorem q2_238 : (Cond.instanceMethod yX2_receive : Cond) ∈ lw_w := tb2 _ (List.mem_of_getElem? (i := 238) rfl) rfl
theorem q2_239 : (Cond.selects RX2 yX2_receive yX2_receive : Cond) ∈ lw_w := tb2 _ (List.mem_of_getElem? (i := 239) rfl) rfl
theorem q3_0 : (Cond.code yX2_receive cX2_receive 4 none : Cond) ∈ lw_w := tb3 _ (List.mem_of_getElem? (i := 0) rfl) rfl
theorem q3_1 : (Cond.methodLink RX2 64 yX2_reasonOf : Cond) ∈ lw_w := tb3 _ (List.mem_of_getElem? (i := 1) rfl) rfl
theorem q3_3 : (Cond.instanceMethod yX2_reasonOf : Cond) ∈ lw_w := tb3 _ (List.mem_of_getElem? (i := 3) rfl) rfl
theorem qs8 : (Cond.selects RX2 yX2_reasonOf yX2_reasonOf : Cond) ∈ lw_w := List.mem_filter.mpr ⟨List.mem_append_left _ (List.mem_of_getElem? (i := 8) rfl), rfl⟩
theorem q3_4 : (Cond.code yX2_reasonOf cX2_reasonOf 3 (some .int) : Cond) ∈ lw_w := tb3 _ (List.mem_of_getElem? (i := 4) rfl) rfl
theorem q3_5 : (Cond.methodLink RX5 148 yX0_give : Cond) ∈ lw_w := tb3 _ (List.mem_of_getElem? (i := 5) rfl) rfl
theorem q3_6 : (Cond.instanceMethod yX0_give : Cond) ∈ lw_w := tb3 _ (List.mem_of_getElem? (i := 6) rfl) rfl
theorem q3_7 : (Cond.selects RX0 yX0_give yX0_give : Cond) ∈ lw_w := tb3 _ (List.mem_of_getElem? (i := 7) rfl) rfl
theorem q3_8 : (Cond.code yX0_give cX0_give 5 none : Cond) ∈ lw_w := tb3 _ (List.mem_of_getElem? (i := 8) rfl) rfl
theorem q3_9 : (Cond.methodLink RX5 151 yX5_store : Cond) ∈ lw_w := tb3 _ (List.mem_of_getElem? (i := 9) rfl) rfl
theorem q3_11 : (Cond.instanceMethod yX5_store : Cond) ∈ lw_w := tb3 _ (List.mem_of_getElem? (i := 11) rfl) rfl
theorem qs9 : (Cond.selects RX5 yX5_store yX5_store : Cond) ∈ lw_w := List.mem_filter.mpr ⟨List.mem_append_left _ (List.mem_of_getElem? (i := 9) rfl), rfl⟩
theorem q3_12 : (Cond.code yX5_store cX5_store 5 none : Cond) ∈ lw_w := tb3 _ (List.mem_of_getElem? (i := 12) rfl) rfl
theorem q3_13 : (Cond.methodLink RX5 179 yX0_canTake : Cond) ∈ lw_w := tb3 _ (List.mem_of_getElem? (i := 13) rfl) rfl
theorem q3_14 : (Cond.instanceMethod yX0_canTake : Cond) ∈ lw_w := tb3 _ (List.mem_of_getElem? (i := 14) rfl) rfl
theorem q3_15 : (Cond.selects RX0 yX0_canTake yX0_canTake : Cond) ∈ lw_w := tb3 _ (List.mem_of_getElem? (i := 15) rfl) rfl
theorem q3_16 : (Cond.code yX0_canTake cX0_canTake 6 (some .int) : Cond) ∈ lw_w := tb3 _ (List.mem_of_getElem? (i := 16) rfl) rfl
theorem q3_17 : (Cond.methodLink RX5 182 yX0_takeIn : Cond) ∈ lw_w := tb3 _ (List.mem_of_getElem? (i := 17) rfl) rfl
theorem q3_18 : (Cond.instanceMethod yX0_takeIn : Cond) ∈ lw_w := tb3 _ (List.mem_of_getElem? (i := 18) rfl) rfl
theorem q3_19 : (Cond.selects RX0 yX0_takeIn yX0_takeIn : Cond) ∈ lw_w := tb3 _ (List.mem_of_getElem? (i := 19) rfl) rfl
theorem q3_20 : (Cond.code yX0_takeIn cX0_takeIn 4 (some .int) : Cond) ∈ lw_w := tb3 _ (List.mem_of_getElem? (i := 20) rfl) rfl
theorem n1_26 : (Jvm.Cond.methodLinkNest "MeterPool$Village" (11 : Nat) ({ cls := "MeterPool$Houses", name := "<init>", desc := "()V" } : Jvm.MethodName) "MeterPool" : Cond) ∈ lw_tbl := List.mem_append_right _ (List.mem_append_left _ (List.mem_of_getElem? (i := 26) rfl))
theorem n1_72 : (Jvm.Cond.superclass "MeterPool$Houses" "java/lang/Object" : Cond) ∈ lw_tbl := List.mem_append_right _ (List.mem_append_left _ (List.mem_of_getElem? (i := 72) rfl))
theorem n1_76 : (Jvm.Cond.methodLinkNest "MeterPool$Village" (20 : Nat) ({ cls := "MeterPool$Loans", name := "<init>", desc := "()V" } : Jvm.MethodName) "MeterPool" : Cond) ∈ lw_tbl := List.mem_append_right _ (List.mem_append_left _ (List.mem_of_getElem? (i := 76) rfl))
theorem n1_97 : (Jvm.Cond.superclass "MeterPool$Loans" "java/lang/Object" : Cond) ∈ lw_tbl := List.mem_append_right _ (List.mem_append_left _ (List.mem_of_getElem? (i := 97) rfl))
theorem n1_116 : (Jvm.Cond.superclass "MeterPool$Batteries" "java/lang/Object" : Cond) ∈ lw_tbl := List.mem_append_right _ (List.mem_append_left _ (List.mem_of_getElem? (i := 116) rfl))
theorem n1_160 : (Jvm.Cond.superclass "MeterPool$Village" "java/lang/Object" : Cond) ∈ lw_tbl := List.mem_append_right _ (List.mem_append_left _ (List.mem_of_getElem? (i := 160) rfl))
theorem n1_168 : (Jvm.Cond.arrayOver (Jvm.ClassFile.FieldType.object "MeterPool$Village") : Cond) ∈ lw_tbl := List.mem_append_right _ (List.mem_append_left _ (List.mem_of_getElem? (i := 168) rfl))
theorem n1_177 : (Jvm.Cond.superclass "MeterPool$History" "java/lang/Object" : Cond) ∈ lw_tbl := List.mem_append_right _ (List.mem_append_left _ (List.mem_of_getElem? (i := 177) rfl))
theorem n1_180 : (Jvm.Cond.methodLinkNest "MeterPool" (36 : Nat) ({ cls := "MeterPool$ListText", name := "<init>", desc := "()V" } : Jvm.MethodName) "MeterPool" : Cond) ∈ lw_tbl := List.mem_append_right _ (List.mem_append_left _ (List.mem_of_getElem? (i := 180) rfl))
theorem n1_198 : (Jvm.Cond.superclass "MeterPool$ListText" "java/lang/Object" : Cond) ∈ lw_tbl := List.mem_append_right _ (List.mem_append_left _ (List.mem_of_getElem? (i := 198) rfl))
theorem n1_218 : (Jvm.Cond.superclass "MeterPool" "java/lang/Object" : Cond) ∈ lw_tbl := List.mem_append_right _ (List.mem_append_left _ (List.mem_of_getElem? (i := 218) rfl))
theorem n2_51 : (Jvm.Cond.laysStatic "MeterPool" "HOUSE_MOST" "[I" : Cond) ∈ lw_tbl := List.mem_append_right _ (List.mem_append_right _ (List.mem_append_left _ (List.mem_of_getElem? (i := 51) rfl)))
theorem n2_68 : (Jvm.Cond.laysStatic "MeterPool" "SETTING_MOST" "[I" : Cond) ∈ lw_tbl := List.mem_append_right _ (List.mem_append_right _ (List.mem_append_left _ (List.mem_of_getElem? (i := 68) rfl)))
theorem n2_77 : (Jvm.Cond.laysStatic "MeterPool" "BATTERY_LEAST" "[I" : Cond) ∈ lw_tbl := List.mem_append_right _ (List.mem_append_right _ (List.mem_append_left _ (List.mem_of_getElem? (i := 77) rfl)))
theorem n2_79 : (Jvm.Cond.laysStatic "MeterPool" "BATTERY_MOST" "[I" : Cond) ∈ lw_tbl := List.mem_append_right _ (List.mem_append_right _ (List.mem_append_left _ (List.mem_of_getElem? (i := 79) rfl)))
set_option maxRecDepth 100000 in
theorem inX0_0 : ∀ w ∈ wsX00, w ∈ lw_tbl ∧ goodWord w = true := by decide +kernel
theorem inX0 : ∀ w ∈ wsX00, w ∈ lw_w := fun w h => List.mem_filter.mpr (inX0_0 w h)
set_option maxRecDepth 100000 in
theorem inX1_0 : ∀ w ∈ wsX10, w ∈ lw_tbl ∧ goodWord w = true := by decide +kernel
theorem inX1 : ∀ w ∈ wsX10, w ∈ lw_w := fun w h => List.mem_filter.mpr (inX1_0 w h)
set_option maxRecDepth 100000 in
theorem inX2_0 : ∀ w ∈ wsX20, w ∈ lw_tbl ∧ goodWord w = true := by decide +kernel
theorem inX2 : ∀ w ∈ wsX20, w ∈ lw_w := fun w h => List.mem_filter.mpr (inX2_0 w h)
set_option maxRecDepth 100000 in
theorem inX3_0 : ∀ w ∈ wsX30, w ∈ lw_tbl ∧ goodWord w = true := by decide +kernel
theorem inX3 : ∀ w ∈ wsX30, w ∈ lw_w := fun w h => List.mem_filter.mpr (inX3_0 w h)
set_option maxRecDepth 100000 in
theorem inX4_0 : ∀ w ∈ wsX40, w ∈ lw_tbl ∧ goodWord w = true := by decide +kernel
theorem inX4 : ∀ w ∈ wsX40, w ∈ lw_w := fun w h => List.mem_filter.mpr (inX4_0 w h)
set_option maxRecDepth 100000 in
theorem inX5_0 : ∀ w ∈ wsX50, w ∈ lw_tbl ∧ goodWord w = true := by decide +kernel
theorem inX5 : ∀ w ∈ wsX50, w ∈ lw_w := fun w h => List.mem_filter.mpr (inX5_0 w h)
set_option maxRecDepth 100000 in
theorem inX6_0 : ∀ w ∈ wsX60, w ∈ lw_tbl ∧ goodWord w = true := by decide +kernel
theorem inX6 : ∀ w ∈ wsX60, w ∈ lw_w := fun w h => List.mem_filter.mpr (inX6_0 w h)
set_option maxRecDepth 100000 in
theorem inX7_0 : ∀ w ∈ wsX70, w ∈ lw_tbl ∧ goodWord w = true := by decide +kernel
theorem inX7 : ∀ w ∈ wsX70, w ∈ lw_w := fun w h => List.mem_filter.mpr (inX7_0 w h)
end
section
/-! THE WALK'S FRAME: a context X (machine, frame, tables, the cells that may change, the goal, the world's family), 'J X pc locals stack S': from every heap that holds the world of S the machine comes to the goal. -/
abbrev JX (σ : Type) : Type := (Program × Launch × Env × Room × State) × (MethodId × Array Value × List Frame × Method × Code) × (Nat × va_G × ClassId × ClassId × ClassId) × (Nat × Nat) × ((Nat → Prop) × (State → Prop) × (σ → va_W))
abbrev JX.p {σ : Type} (X : JX σ) : Program := X.1.1
abbrev JX.l {σ : Type} (X : JX σ) : Launch := X.1.2.1
abbrev JX.e {σ : Type} (X : JX σ) : Env := X.1.2.2.1
abbrev JX.R {σ : Type} (X : JX σ) : Room := X.1.2.2.2.1
abbrev JX.s {σ : Type} (X : JX σ) : State := X.1.2.2.2.2
abbrev JX.m {σ : Type} (X : JX σ) : MethodId := X.2.1.1
abbrev JX.args {σ : Type} (X : JX σ) : Array Value := X.2.1.2.1
abbrev JX.below {σ : Type} (X : JX σ) : List Frame := X.2.1.2.2.1
abbrev JX.meth {σ : Type} (X : JX σ) : Method := X.2.1.2.2.2.1
abbrev JX.c {σ : Type} (X : JX σ) : Code := X.2.1.2.2.2.2
abbrev JX.nL {σ : Type} (X : JX σ) : Nat := X.2.2.1.1
abbrev JX.D {σ : Type} (X : JX σ) : va_G := X.2.2.1.2.1
abbrev JX.cI {σ : Type} (X : JX σ) : ClassId := X.2.2.1.2.2.1
abbrev JX.cZ {σ : Type} (X : JX σ) : ClassId := X.2.2.1.2.2.2.1
abbrev JX.cV {σ : Type} (X : JX σ) : ClassId := X.2.2.1.2.2.2.2
abbrev JX.kc {σ : Type} (X : JX σ) : Nat := X.2.2.2.1.1
abbrev JX.ks {σ : Type} (X : JX σ) : Nat := X.2.2.2.1.2
abbrev JX.A {σ : Type} (X : JX σ) : Nat → Prop := X.2.2.2.2.1
abbrev JX.Q {σ : Type} (X : JX σ) : State → Prop := X.2.2.2.2.2.1
abbrev JX.B {σ : Type} (X : JX σ) : σ → va_W := X.2.2.2.2.2.2
def jtys (cI cZ cV : ClassId) : List (ClassId × FieldType) := [(cI, .int), (cZ, .boolean), (cV, .object RX5)]
def J {σ : Type} (X : JX σ) (pc : Nat) (lv : List (Nat × Value)) (st : List Value) (S : σ) : Prop :=
  ∀ (ls : Array Slot) (H : Heap) (locs : List Loc), lv_has ls X.nL lv → va_P X.D vwCl (X.B S) H → va_D X.A (X.B S) → va_S X.A X.s.heap H locs → W X.p X.l X.e X.R X.s X.m X.args X.below X.meth X.c H locs X.kc X.ks X.Q (F0 X.m pc ls st)
def OK {σ : Type} (X : JX σ) (own : String) (cc : ByteArray) (rm : Room) : Prop :=
  X.p.tables.exec = Jvm.exec ∧ X.c.code = cc ∧ X.c.maxLocals = X.nL ∧ X.s.vm.findClass own = some X.m.cls ∧ (∀ w ∈ lw_w, w.before X.args X.s = true) ∧ va_K X.D vwCl (jtys X.cI X.cZ X.cV) X.s ∧ (∀ q, X.s.heap.size ≤ q → X.A q) ∧ X.R = rm ∧ X.kc ≤ rm.cells ∧ X.ks ≤ rm.slots
/-! the pure programs' words: a check, a name, a bind -/
def inb (i : Int32) (n : Nat) : Bool := decide (0 ≤ i.toInt) && decide (i.toInt < (n : Int))
def bnd {α : Type} (b : Bool) (x : Option α) : Option α := if b = true then x else none
def letv {α β : Type} (e : α) (f : α → β) : β := f e
def bnd2 {α β : Type} (x : Option α) (f : α → Option β) : Option β := x.bind f
theorem inb_vp {i : Int32} {n : Nat} (h : inb i n = true) : vp_in i n := by
  unfold inb at h
  rw [Bool.and_eq_true, decide_eq_true_eq, decide_eq_true_eq] at h
  exact vp_in_iff.mpr h
theorem bnd_row {α : Type} {b : Bool} {x : Option α} {r : α} (h : bnd b x = some r) : b = true ∧ x = some r := by
  unfold bnd at h
  by_cases hb : b = true
  · rw [if_pos hb] at h; exact ⟨hb, h⟩
  · rw [if_neg hb] at h; cases h
theorem bind_row {α β : Type} {x : Option α} {f : α → Option β} {r : β} (h : bnd2 x f = some r) : ∃ a, x = some a ∧ f a = some r := by
  unfold bnd2 at h
  cases x with
  | none => cases h
  | some a => exact ⟨a, rfl, h⟩
theorem ite_t {α : Type} {c : Prop} {dc : Decidable c} {a b r : α} (hc : c) (h : (if c then a else b) = r) : a = r := by rwa [if_pos hc] at h
theorem ite_f {α : Type} {c : Prop} {dc : Decidable c} {a b r : α} (hc : ¬ c) (h : (if c then a else b) = r) : b = r := by rwa [if_neg hc] at h
section JR
variable {σ ρ : Type} {X : JX σ} {own : String} {cc : ByteArray} {rm : Room} {pc : Nat} {lv lv' : List (Nat × Value)} {st : List Value} {S S' : σ} {res : ρ}
theorem j_let {e : Int32} {f : Int32 → Option ρ} (hF : letv e f = some res) (k : ∀ y : Int32, f y = some res → J X pc lv (.int y :: st) S) : J X pc lv (.int e :: st) S := k e hF
theorem j_letl {e : Int64} {f : Int64 → Option ρ} (hF : letv e f = some res) (k : ∀ y : Int64, f y = some res → J X pc lv (.long y :: st) S) : J X pc lv (.long e :: st) S := k e hF
theorem j_letd {e : UInt64} {f : UInt64 → Option ρ} (hF : letv e f = some res) (k : ∀ y : UInt64, f y = some res → J X pc lv (.double y :: st) S) : J X pc lv (.double e :: st) S := k e hF
theorem j_sub (ks : List Nat) (hl : lv_pick lv ks = lv') (k : J X pc lv' st S) : J X pc lv st S := fun ls H locs a1 a2 a3 a4 => k ls H locs (lv_sub a1 ks hl) a2 a3 a4

theorem j_iconst (h : OK X own cc rm) {n : Int} {v : Int32} (hv : Int32.ofInt n = v) (hdg : decode cc pc = .ok (.iconst n, 1)) (k : J X (pc + 1) lv (.int v :: st) S) : J X pc lv (st) S := fun ls H locs a1 a2 a3 a4 => lv_iconst h.1 h.2.1 hdg hv (k ls H locs a1 a2 a3 a4)
theorem j_bipush (h : OK X own cc rm) {n : Int} {v : Int32} (hv : (Int8.ofInt n).toInt32 = v) (hdg : decode cc pc = .ok (.bipush n, 2)) (k : J X (pc + 2) lv (.int v :: st) S) : J X pc lv (st) S := fun ls H locs a1 a2 a3 a4 => lv_bipush h.1 h.2.1 hdg hv (k ls H locs a1 a2 a3 a4)
theorem j_sipush (h : OK X own cc rm) {n : Int} {v : Int32} (hv : (Int16.ofInt n).toInt32 = v) (hdg : decode cc pc = .ok (.sipush n, 3)) (k : J X (pc + 3) lv (.int v :: st) S) : J X pc lv (st) S := fun ls H locs a1 a2 a3 a4 => lv_sipush h.1 h.2.1 hdg hv (k ls H locs a1 a2 a3 a4)
theorem j_lconst (h : OK X own cc rm) {n : Fin 2} {v : Int64} (hv : Int64.ofNat (n : Nat) = v) (hdg : decode cc pc = .ok (.lconst n, 1)) (k : J X (pc + 1) lv (.long v :: st) S) : J X pc lv (st) S := fun ls H locs a1 a2 a3 a4 => lv_lconst h.1 h.2.1 hdg hv (k ls H locs a1 a2 a3 a4)
theorem j_dconst0 (h : OK X own cc rm)  (hdg : decode cc pc = .ok (.dconst 0, 1)) (k : J X (pc + 1) lv (.double FP.dconst0 :: st) S) : J X pc lv (st) S := fun ls H locs a1 a2 a3 a4 => lv_dconst0 h.1 h.2.1 hdg (k ls H locs a1 a2 a3 a4)
theorem j_dconst1 (h : OK X own cc rm)  (hdg : decode cc pc = .ok (.dconst 1, 1)) (k : J X (pc + 1) lv (.double FP.dconst1 :: st) S) : J X pc lv (st) S := fun ls H locs a1 a2 a3 a4 => lv_dconst1 h.1 h.2.1 hdg (k ls H locs a1 a2 a3 a4)
theorem j_ldc (h : OK X own cc rm) {index : Nat} {v : Int32} (hq : (Cond.constant own index v) ∈ lw_w) (hdg : decode cc pc = .ok (.ldc index, 2)) (k : J X (pc + 2) lv (.int v :: st) S) : J X pc lv st S := fun ls H locs a1 a2 a3 a4 => lv_ldc h.1 h.2.1 h.2.2.2.1 (h.2.2.2.2.1 _ hq) hdg (k ls H locs a1 a2 a3 a4)
theorem j_ldc2 (h : OK X own cc rm) {index : Nat} {v : Int64} (hq : (Cond.constantLong own index v) ∈ lw_w) (hdg : decode cc pc = .ok (.ldc2_w index, 3)) (k : J X (pc + 3) lv (.long v :: st) S) : J X pc lv st S := fun ls H locs a1 a2 a3 a4 => lv_ldc2 h.1 h.2.1 h.2.2.2.1 (h.2.2.2.2.1 _ hq) hdg (k ls H locs a1 a2 a3 a4)
theorem j_ldc2d (h : OK X own cc rm) {index : Nat} {v : UInt64} (hq : (Cond.constantDouble own index v) ∈ lw_w) (hdg : decode cc pc = .ok (.ldc2_w index, 3)) (k : J X (pc + 3) lv (.double v :: st) S) : J X pc lv st S := fun ls H locs a1 a2 a3 a4 => lv_ldc2d h.1 h.2.1 h.2.2.2.1 (h.2.2.2.2.1 _ hq) hdg (k ls H locs a1 a2 a3 a4)
theorem j_iload_n (h : OK X own cc rm) (q : Nat) {k : Fin 4} {i : Nat} {x : Int32} (hi : (k : Nat) = i) (hl : lv[q]? = some (i, .int x)) (hdg : decode cc pc = .ok (.iload_n k, 1)) (kk : J X (pc + 1) lv (.int x :: st) S) : J X pc lv st S := fun ls H locs a1 a2 a3 a4 => lv_iload_n h.1 h.2.1 hdg hi (lv_at a1 q hl) (kk ls H locs a1 a2 a3 a4)
theorem j_iload (h : OK X own cc rm) (q : Nat) {i : Nat} {x : Int32} (hl : lv[q]? = some (i, .int x)) (hdg : decode cc pc = .ok (.iload i, 2)) (kk : J X (pc + 2) lv (.int x :: st) S) : J X pc lv st S := fun ls H locs a1 a2 a3 a4 => lv_iload h.1 h.2.1 hdg (lv_at a1 q hl) (kk ls H locs a1 a2 a3 a4)
theorem j_lload_n (h : OK X own cc rm) (q : Nat) {k : Fin 4} {i : Nat} {x : Int64} (hi : (k : Nat) = i) (hl : lv[q]? = some (i, .long x)) (hdg : decode cc pc = .ok (.lload_n k, 1)) (kk : J X (pc + 1) lv (.long x :: st) S) : J X pc lv st S := fun ls H locs a1 a2 a3 a4 => lv_lload_n h.1 h.2.1 hdg hi (lv_at a1 q hl) (kk ls H locs a1 a2 a3 a4)
theorem j_lload (h : OK X own cc rm) (q : Nat) {i : Nat} {x : Int64} (hl : lv[q]? = some (i, .long x)) (hdg : decode cc pc = .ok (.lload i, 2)) (kk : J X (pc + 2) lv (.long x :: st) S) : J X pc lv st S := fun ls H locs a1 a2 a3 a4 => lv_lload h.1 h.2.1 hdg (lv_at a1 q hl) (kk ls H locs a1 a2 a3 a4)
theorem j_dload_n (h : OK X own cc rm) (q : Nat) {k : Fin 4} {i : Nat} {x : UInt64} (hi : (k : Nat) = i) (hl : lv[q]? = some (i, .double x)) (hdg : decode cc pc = .ok (.dload_n k, 1)) (kk : J X (pc + 1) lv (.double x :: st) S) : J X pc lv st S := fun ls H locs a1 a2 a3 a4 => lv_dload_n h.1 h.2.1 hdg hi (lv_at a1 q hl) (kk ls H locs a1 a2 a3 a4)
theorem j_dload (h : OK X own cc rm) (q : Nat) {i : Nat} {x : UInt64} (hl : lv[q]? = some (i, .double x)) (hdg : decode cc pc = .ok (.dload i, 2)) (kk : J X (pc + 2) lv (.double x :: st) S) : J X pc lv st S := fun ls H locs a1 a2 a3 a4 => lv_dload h.1 h.2.1 hdg (lv_at a1 q hl) (kk ls H locs a1 a2 a3 a4)
theorem j_aload_n (h : OK X own cc rm) (q : Nat) {k : Fin 4} {i : Nat} {x : Nat} (hi : (k : Nat) = i) (hl : lv[q]? = some (i, .ref x)) (hdg : decode cc pc = .ok (.aload_n k, 1)) (kk : J X (pc + 1) lv (.ref x :: st) S) : J X pc lv st S := fun ls H locs a1 a2 a3 a4 => lv_aload_n h.1 h.2.1 hdg hi (lv_at a1 q hl) (kk ls H locs a1 a2 a3 a4)
theorem j_aload (h : OK X own cc rm) (q : Nat) {i : Nat} {x : Nat} (hl : lv[q]? = some (i, .ref x)) (hdg : decode cc pc = .ok (.aload i, 2)) (kk : J X (pc + 2) lv (.ref x :: st) S) : J X pc lv st S := fun ls H locs a1 a2 a3 a4 => lv_aload h.1 h.2.1 hdg (lv_at a1 q hl) (kk ls H locs a1 a2 a3 a4)
theorem j_istore_n (h : OK X own cc rm) {nL0 : Nat} (hnL : X.nL = nL0) {k : Fin 4} {i : Nat} {x : Int32} (lv1 : List (Nat × Value)) (hi : (k : Nat) = i) (hn : i < nL0) (hl : (i, Value.int x) :: lv.filter (fun q => !(q.1 == i) && !(q.1 + 1 == i && q.2.category == 2)) = lv1) (hdg : decode cc pc = .ok (.istore_n k, 1)) (kk : J X (pc + 1) lv1 st S) : J X pc lv (.int x :: st) S := fun ls H locs a1 a2 a3 a4 => lv_istore_n h.1 h.2.1 hdg hi a1 (by rw [hnL]; exact hn) hl (fun ls2 b1 => kk ls2 H locs b1 a2 a3 a4)
theorem j_istore (h : OK X own cc rm) {nL0 : Nat} (hnL : X.nL = nL0) {i : Nat} {x : Int32} (lv1 : List (Nat × Value)) (hn : i < nL0) (hl : (i, Value.int x) :: lv.filter (fun q => !(q.1 == i) && !(q.1 + 1 == i && q.2.category == 2)) = lv1) (hdg : decode cc pc = .ok (.istore i, 2)) (kk : J X (pc + 2) lv1 st S) : J X pc lv (.int x :: st) S := fun ls H locs a1 a2 a3 a4 => lv_istore h.1 h.2.1 hdg a1 (by rw [hnL]; exact hn) hl (fun ls2 b1 => kk ls2 H locs b1 a2 a3 a4)
theorem j_astore_n (h : OK X own cc rm) {nL0 : Nat} (hnL : X.nL = nL0) {k : Fin 4} {i : Nat} {x : Nat} (lv1 : List (Nat × Value)) (hi : (k : Nat) = i) (hn : i < nL0) (hl : (i, Value.ref x) :: lv.filter (fun q => !(q.1 == i) && !(q.1 + 1 == i && q.2.category == 2)) = lv1) (hdg : decode cc pc = .ok (.astore_n k, 1)) (kk : J X (pc + 1) lv1 st S) : J X pc lv (.ref x :: st) S := fun ls H locs a1 a2 a3 a4 => lv_astore_n h.1 h.2.1 hdg hi a1 (by rw [hnL]; exact hn) hl (fun ls2 b1 => kk ls2 H locs b1 a2 a3 a4)
theorem j_astore (h : OK X own cc rm) {nL0 : Nat} (hnL : X.nL = nL0) {i : Nat} {x : Nat} (lv1 : List (Nat × Value)) (hn : i < nL0) (hl : (i, Value.ref x) :: lv.filter (fun q => !(q.1 == i) && !(q.1 + 1 == i && q.2.category == 2)) = lv1) (hdg : decode cc pc = .ok (.astore i, 2)) (kk : J X (pc + 2) lv1 st S) : J X pc lv (.ref x :: st) S := fun ls H locs a1 a2 a3 a4 => lv_astore h.1 h.2.1 hdg a1 (by rw [hnL]; exact hn) hl (fun ls2 b1 => kk ls2 H locs b1 a2 a3 a4)
theorem j_lstore_n (h : OK X own cc rm) {nL0 : Nat} (hnL : X.nL = nL0) {k : Fin 4} {i : Nat} {x : Int64} (lv1 : List (Nat × Value)) (hi : (k : Nat) = i) (hn : i + 1 < nL0) (hl : (i, Value.long x) :: lv.filter (fun q => !(q.1 == i) && (!(q.1 == i + 1) && !(q.1 + 1 == i && q.2.category == 2))) = lv1) (hdg : decode cc pc = .ok (.lstore_n k, 1)) (kk : J X (pc + 1) lv1 st S) : J X pc lv (.long x :: st) S := fun ls H locs a1 a2 a3 a4 => lv_lstore_n h.1 h.2.1 hdg hi a1 (by rw [hnL]; exact hn) hl (fun ls2 b1 => kk ls2 H locs b1 a2 a3 a4)
theorem j_lstore (h : OK X own cc rm) {nL0 : Nat} (hnL : X.nL = nL0) {i : Nat} {x : Int64} (lv1 : List (Nat × Value)) (hn : i + 1 < nL0) (hl : (i, Value.long x) :: lv.filter (fun q => !(q.1 == i) && (!(q.1 == i + 1) && !(q.1 + 1 == i && q.2.category == 2))) = lv1) (hdg : decode cc pc = .ok (.lstore i, 2)) (kk : J X (pc + 2) lv1 st S) : J X pc lv (.long x :: st) S := fun ls H locs a1 a2 a3 a4 => lv_lstore h.1 h.2.1 hdg a1 (by rw [hnL]; exact hn) hl (fun ls2 b1 => kk ls2 H locs b1 a2 a3 a4)
theorem j_dstore_n (h : OK X own cc rm) {nL0 : Nat} (hnL : X.nL = nL0) {k : Fin 4} {i : Nat} {x : UInt64} (lv1 : List (Nat × Value)) (hi : (k : Nat) = i) (hn : i + 1 < nL0) (hl : (i, Value.double x) :: lv.filter (fun q => !(q.1 == i) && (!(q.1 == i + 1) && !(q.1 + 1 == i && q.2.category == 2))) = lv1) (hdg : decode cc pc = .ok (.dstore_n k, 1)) (kk : J X (pc + 1) lv1 st S) : J X pc lv (.double x :: st) S := fun ls H locs a1 a2 a3 a4 => lv_dstore_n h.1 h.2.1 hdg hi a1 (by rw [hnL]; exact hn) hl (fun ls2 b1 => kk ls2 H locs b1 a2 a3 a4)
theorem j_dstore (h : OK X own cc rm) {nL0 : Nat} (hnL : X.nL = nL0) {i : Nat} {x : UInt64} (lv1 : List (Nat × Value)) (hn : i + 1 < nL0) (hl : (i, Value.double x) :: lv.filter (fun q => !(q.1 == i) && (!(q.1 == i + 1) && !(q.1 + 1 == i && q.2.category == 2))) = lv1) (hdg : decode cc pc = .ok (.dstore i, 2)) (kk : J X (pc + 2) lv1 st S) : J X pc lv (.double x :: st) S := fun ls H locs a1 a2 a3 a4 => lv_dstore h.1 h.2.1 hdg a1 (by rw [hnL]; exact hn) hl (fun ls2 b1 => kk ls2 H locs b1 a2 a3 a4)
theorem j_iinc (h : OK X own cc rm) {nL0 : Nat} (hnL : X.nL = nL0) (q : Nat) {i : Nat} {n : Int} {x y v : Int32} (lv1 : List (Nat × Value)) (hq : lv[q]? = some (i, .int x)) (hv : v = x + y) (hy : Int32.ofInt n = y) (hn : i < nL0) (hl : (i, Value.int v) :: lv.filter (fun q => !(q.1 == i) && !(q.1 + 1 == i && q.2.category == 2)) = lv1) (hdg : decode cc pc = .ok (.iinc i n, 3)) (kk : J X (pc + 3) lv1 st S) : J X pc lv st S := fun ls H locs a1 a2 a3 a4 => lv_iinc h.1 h.2.1 hdg a1 hq (by rw [hy]; exact hv.symm) (by rw [hnL]; exact hn) hl (fun ls2 b1 => kk ls2 H locs b1 a2 a3 a4)
theorem j_iincL {e : Int32} {f : Int32 → Option ρ} (hF : letv e f = some res) (k : ∀ y : Int32, y = e → f y = some res → J X pc lv st S) : J X pc lv st S := k e rfl hF
theorem j_iadd (h : OK X own cc rm) {x y : Int32} (hdg : decode cc pc = .ok (.iadd, 1)) (k : J X (pc + 1) lv (.int (x + y) :: st) S) : J X pc lv (.int y :: .int x :: st) S := fun ls H locs a1 a2 a3 a4 => lv_iadd h.1 h.2.1 hdg (k ls H locs a1 a2 a3 a4)
theorem j_isub (h : OK X own cc rm) {x y : Int32} (hdg : decode cc pc = .ok (.isub, 1)) (k : J X (pc + 1) lv (.int (x - y) :: st) S) : J X pc lv (.int y :: .int x :: st) S := fun ls H locs a1 a2 a3 a4 => lv_isub h.1 h.2.1 hdg (k ls H locs a1 a2 a3 a4)
theorem j_imul (h : OK X own cc rm) {x y : Int32} (hdg : decode cc pc = .ok (.imul, 1)) (k : J X (pc + 1) lv (.int (x * y) :: st) S) : J X pc lv (.int y :: .int x :: st) S := fun ls H locs a1 a2 a3 a4 => lv_imul h.1 h.2.1 hdg (k ls H locs a1 a2 a3 a4)
theorem j_iand (h : OK X own cc rm) {x y : Int32} (hdg : decode cc pc = .ok (.iand, 1)) (k : J X (pc + 1) lv (.int (x &&& y) :: st) S) : J X pc lv (.int y :: .int x :: st) S := fun ls H locs a1 a2 a3 a4 => lv_iand h.1 h.2.1 hdg (k ls H locs a1 a2 a3 a4)
theorem j_ior (h : OK X own cc rm) {x y : Int32} (hdg : decode cc pc = .ok (.ior, 1)) (k : J X (pc + 1) lv (.int (x ||| y) :: st) S) : J X pc lv (.int y :: .int x :: st) S := fun ls H locs a1 a2 a3 a4 => lv_ior h.1 h.2.1 hdg (k ls H locs a1 a2 a3 a4)
theorem j_ixor (h : OK X own cc rm) {x y : Int32} (hdg : decode cc pc = .ok (.ixor, 1)) (k : J X (pc + 1) lv (.int (x ^^^ y) :: st) S) : J X pc lv (.int y :: .int x :: st) S := fun ls H locs a1 a2 a3 a4 => lv_ixor h.1 h.2.1 hdg (k ls H locs a1 a2 a3 a4)
theorem j_ishl (h : OK X own cc rm) {x y : Int32} (hdg : decode cc pc = .ok (.ishl, 1)) (k : J X (pc + 1) lv (.int (x <<< (y &&& 31)) :: st) S) : J X pc lv (.int y :: .int x :: st) S := fun ls H locs a1 a2 a3 a4 => lv_ishl h.1 h.2.1 hdg (k ls H locs a1 a2 a3 a4)
theorem j_ishr (h : OK X own cc rm) {x y : Int32} (hdg : decode cc pc = .ok (.ishr, 1)) (k : J X (pc + 1) lv (.int (x >>> (y &&& 31)) :: st) S) : J X pc lv (.int y :: .int x :: st) S := fun ls H locs a1 a2 a3 a4 => lv_ishr h.1 h.2.1 hdg (k ls H locs a1 a2 a3 a4)
theorem j_ineg (h : OK X own cc rm) {x : Int32} (hdg : decode cc pc = .ok (.ineg, 1)) (k : J X (pc + 1) lv (.int (-x) :: st) S) : J X pc lv (.int x :: st) S := fun ls H locs a1 a2 a3 a4 => lv_ineg h.1 h.2.1 hdg (k ls H locs a1 a2 a3 a4)
theorem j_idiv (h : OK X own cc rm) {x y : Int32} (hne : ¬ y = 0) (hdg : decode cc pc = .ok (.idiv, 1)) (k : J X (pc + 1) lv (.int (x / y) :: st) S) : J X pc lv (.int y :: .int x :: st) S := fun ls H locs a1 a2 a3 a4 => lv_idiv h.1 h.2.1 hdg hne (k ls H locs a1 a2 a3 a4)
theorem j_irem (h : OK X own cc rm) {x y : Int32} (hne : ¬ y = 0) (hdg : decode cc pc = .ok (.irem, 1)) (k : J X (pc + 1) lv (.int (x - x / y * y) :: st) S) : J X pc lv (.int y :: .int x :: st) S := fun ls H locs a1 a2 a3 a4 => lv_irem h.1 h.2.1 hdg hne (k ls H locs a1 a2 a3 a4)
theorem j_ladd (h : OK X own cc rm) {x y : Int64} (hdg : decode cc pc = .ok (.ladd, 1)) (k : J X (pc + 1) lv (.long (x + y) :: st) S) : J X pc lv (.long y :: .long x :: st) S := fun ls H locs a1 a2 a3 a4 => lv_ladd h.1 h.2.1 hdg (k ls H locs a1 a2 a3 a4)
theorem j_lsub (h : OK X own cc rm) {x y : Int64} (hdg : decode cc pc = .ok (.lsub, 1)) (k : J X (pc + 1) lv (.long (x - y) :: st) S) : J X pc lv (.long y :: .long x :: st) S := fun ls H locs a1 a2 a3 a4 => lv_lsub h.1 h.2.1 hdg (k ls H locs a1 a2 a3 a4)
theorem j_lmul (h : OK X own cc rm) {x y : Int64} (hdg : decode cc pc = .ok (.lmul, 1)) (k : J X (pc + 1) lv (.long (x * y) :: st) S) : J X pc lv (.long y :: .long x :: st) S := fun ls H locs a1 a2 a3 a4 => lv_lmul h.1 h.2.1 hdg (k ls H locs a1 a2 a3 a4)
theorem j_lor (h : OK X own cc rm) {x y : Int64} (hdg : decode cc pc = .ok (.lor, 1)) (k : J X (pc + 1) lv (.long (x ||| y) :: st) S) : J X pc lv (.long y :: .long x :: st) S := fun ls H locs a1 a2 a3 a4 => lv_lor h.1 h.2.1 hdg (k ls H locs a1 a2 a3 a4)
theorem j_lshl (h : OK X own cc rm) {x : Int64} {y : Int32} (hdg : decode cc pc = .ok (.lshl, 1)) (k : J X (pc + 1) lv (.long (x <<< (y.toInt64 &&& 63)) :: st) S) : J X pc lv (.int y :: .long x :: st) S := fun ls H locs a1 a2 a3 a4 => lv_lshl h.1 h.2.1 hdg rfl (k ls H locs a1 a2 a3 a4)
theorem j_i2l (h : OK X own cc rm) {x : Int32} (hdg : decode cc pc = .ok (.i2l, 1)) (k : J X (pc + 1) lv (.long x.toInt64 :: st) S) : J X pc lv (.int x :: st) S := fun ls H locs a1 a2 a3 a4 => lv_i2l h.1 h.2.1 hdg rfl (k ls H locs a1 a2 a3 a4)
theorem j_lcmp (h : OK X own cc rm) {x y : Int64} (hdg : decode cc pc = .ok (.lcmp, 1)) (k : J X (pc + 1) lv (.int (lg_cmp x y) :: st) S) : J X pc lv (.long y :: .long x :: st) S := fun ls H locs a1 a2 a3 a4 => W.lcmp h.1 h.2.1 hdg (k ls H locs a1 a2 a3 a4)
theorem j_i2d (h : OK X own cc rm) {x : Int32} (hdg : decode cc pc = .ok (.i2d, 1)) (k : J X (pc + 1) lv (.double (FP.i2d x) :: st) S) : J X pc lv (.int x :: st) S := fun ls H locs a1 a2 a3 a4 => lv_i2d h.1 h.2.1 hdg (k ls H locs a1 a2 a3 a4)
theorem j_d2l (h : OK X own cc rm) {x : UInt64} (hdg : decode cc pc = .ok (.d2l, 1)) (k : J X (pc + 1) lv (.long (FP.d2l x) :: st) S) : J X pc lv (.double x :: st) S := fun ls H locs a1 a2 a3 a4 => lv_d2l h.1 h.2.1 hdg (k ls H locs a1 a2 a3 a4)
theorem j_dcmp (h : OK X own cc rm) {x y : UInt64} {op : CmpOp} (hdg : decode cc pc = .ok (.dcmp op, 1)) (k : J X (pc + 1) lv (.int (Op.cmpValue (FP.dcmp x y) op) :: st) S) : J X pc lv (.double y :: .double x :: st) S := fun ls H locs a1 a2 a3 a4 => lv_dcmp h.1 h.2.1 hdg (k ls H locs a1 a2 a3 a4)
theorem j_ddiv (h : OK X own cc rm) {x y : UInt64} (hne : vf_n64 (FP.ddiv x y)) (hdg : decode cc pc = .ok (.ddiv, 1)) (k : J X (pc + 1) lv (.double (FP.ddiv x y) :: st) S) : J X pc lv (.double y :: .double x :: st) S := fun ls H locs a1 a2 a3 a4 => lv_ddiv h.1 h.2.1 hdg hne (k ls H locs a1 a2 a3 a4)
theorem j_dmul (h : OK X own cc rm) {x y : UInt64} (hne : vf_n64 (FP.dmul x y)) (hdg : decode cc pc = .ok (.dmul, 1)) (k : J X (pc + 1) lv (.double (FP.dmul x y) :: st) S) : J X pc lv (.double y :: .double x :: st) S := fun ls H locs a1 a2 a3 a4 => lv_dmul h.1 h.2.1 hdg hne (k ls H locs a1 a2 a3 a4)
theorem j_dsub (h : OK X own cc rm) {x y : UInt64} (hne : vf_n64 (FP.dsub x y)) (hdg : decode cc pc = .ok (.dsub, 1)) (k : J X (pc + 1) lv (.double (FP.dsub x y) :: st) S) : J X pc lv (.double y :: .double x :: st) S := fun ls H locs a1 a2 a3 a4 => lv_dsub h.1 h.2.1 hdg hne (k ls H locs a1 a2 a3 a4)
theorem j_dup (h : OK X own cc rm) {v : Value} (hv : v.category = 1) (hdg : decode cc pc = .ok (.dup, 1)) (k : J X (pc + 1) lv (v :: v :: st) S) : J X pc lv (v :: st) S := fun ls H locs a1 a2 a3 a4 => lv_dup h.1 h.2.1 hdg hv (k ls H locs a1 a2 a3 a4)
theorem j_pop (h : OK X own cc rm) {v : Value} (hv : v.category = 1) (hdg : decode cc pc = .ok (.pop, 1)) (k : J X (pc + 1) lv (st) S) : J X pc lv (v :: st) S := fun ls H locs a1 a2 a3 a4 => lv_pop h.1 h.2.1 hdg hv (k ls H locs a1 a2 a3 a4)
theorem j_dup2 (h : OK X own cc rm) {v u : Value} (hv : v.category = 1) (hu : u.category = 1) (hdg : decode cc pc = .ok (.dup2, 1)) (k : J X (pc + 1) lv (v :: u :: v :: u :: st) S) : J X pc lv (v :: u :: st) S := fun ls H locs a1 a2 a3 a4 => lv_dup2_11 h.1 h.2.1 hdg hv hu (k ls H locs a1 a2 a3 a4)
theorem j_if_eq (h : OK X own cc rm) {x : Int32} {off : Int} (tgt : Nat) {fa fb : Option ρ} (ht : (pc : Int) + off = (tgt : Int)) (hdg : decode cc pc = .ok (.ifCond .eq off, 3)) (hF : (if x = 0 then fa else fb) = some res) (ka : fa = some res → J X (tgt) lv st S) (kb : fb = some res → J X (pc + 3) lv st S) : J X pc lv (.int x :: st) S := fun ls H locs a1 a2 a3 a4 => lv_if_eq h.1 h.2.1 hdg ht (fun hc => ka (ite_t hc hF) ls H locs a1 a2 a3 a4) (fun hc => kb (ite_f hc hF) ls H locs a1 a2 a3 a4)
theorem j_icmp_eq (h : OK X own cc rm) {x y : Int32} {off : Int} (tgt : Nat) {fa fb : Option ρ} (ht : (pc : Int) + off = (tgt : Int)) (hdg : decode cc pc = .ok (.if_icmp .eq off, 3)) (hF : (if x = y then fa else fb) = some res) (ka : fa = some res → J X (tgt) lv st S) (kb : fb = some res → J X (pc + 3) lv st S) : J X pc lv (.int y :: .int x :: st) S := fun ls H locs a1 a2 a3 a4 => lv_icmp_eq h.1 h.2.1 hdg ht (fun hc => ka (ite_t hc hF) ls H locs a1 a2 a3 a4) (fun hc => kb (ite_f hc hF) ls H locs a1 a2 a3 a4)
theorem j_if_ne (h : OK X own cc rm) {x : Int32} {off : Int} (tgt : Nat) {fa fb : Option ρ} (ht : (pc : Int) + off = (tgt : Int)) (hdg : decode cc pc = .ok (.ifCond .ne off, 3)) (hF : (if x = 0 then fa else fb) = some res) (ka : fa = some res → J X (pc + 3) lv st S) (kb : fb = some res → J X (tgt) lv st S) : J X pc lv (.int x :: st) S := fun ls H locs a1 a2 a3 a4 => lv_if_ne h.1 h.2.1 hdg ht (fun hc => kb (ite_f hc hF) ls H locs a1 a2 a3 a4) (fun hc => ka (ite_t hc hF) ls H locs a1 a2 a3 a4)
theorem j_icmp_ne (h : OK X own cc rm) {x y : Int32} {off : Int} (tgt : Nat) {fa fb : Option ρ} (ht : (pc : Int) + off = (tgt : Int)) (hdg : decode cc pc = .ok (.if_icmp .ne off, 3)) (hF : (if x = y then fa else fb) = some res) (ka : fa = some res → J X (pc + 3) lv st S) (kb : fb = some res → J X (tgt) lv st S) : J X pc lv (.int y :: .int x :: st) S := fun ls H locs a1 a2 a3 a4 => lv_icmp_ne h.1 h.2.1 hdg ht (fun hc => kb (ite_f hc hF) ls H locs a1 a2 a3 a4) (fun hc => ka (ite_t hc hF) ls H locs a1 a2 a3 a4)
theorem j_if_lt (h : OK X own cc rm) {x : Int32} {off : Int} (tgt : Nat) {fa fb : Option ρ} (ht : (pc : Int) + off = (tgt : Int)) (hdg : decode cc pc = .ok (.ifCond .lt off, 3)) (hF : (if x < 0 then fa else fb) = some res) (ka : fa = some res → J X (tgt) lv st S) (kb : fb = some res → J X (pc + 3) lv st S) : J X pc lv (.int x :: st) S := fun ls H locs a1 a2 a3 a4 => lv_if_lt h.1 h.2.1 hdg ht (fun hc => ka (ite_t hc hF) ls H locs a1 a2 a3 a4) (fun hc => kb (ite_f hc hF) ls H locs a1 a2 a3 a4)
theorem j_icmp_lt (h : OK X own cc rm) {x y : Int32} {off : Int} (tgt : Nat) {fa fb : Option ρ} (ht : (pc : Int) + off = (tgt : Int)) (hdg : decode cc pc = .ok (.if_icmp .lt off, 3)) (hF : (if x < y then fa else fb) = some res) (ka : fa = some res → J X (tgt) lv st S) (kb : fb = some res → J X (pc + 3) lv st S) : J X pc lv (.int y :: .int x :: st) S := fun ls H locs a1 a2 a3 a4 => lv_icmp_lt h.1 h.2.1 hdg ht (fun hc => ka (ite_t hc hF) ls H locs a1 a2 a3 a4) (fun hc => kb (ite_f hc hF) ls H locs a1 a2 a3 a4)
theorem j_if_ge (h : OK X own cc rm) {x : Int32} {off : Int} (tgt : Nat) {fa fb : Option ρ} (ht : (pc : Int) + off = (tgt : Int)) (hdg : decode cc pc = .ok (.ifCond .ge off, 3)) (hF : (if 0 ≤ x then fa else fb) = some res) (ka : fa = some res → J X (tgt) lv st S) (kb : fb = some res → J X (pc + 3) lv st S) : J X pc lv (.int x :: st) S := fun ls H locs a1 a2 a3 a4 => lv_if_ge h.1 h.2.1 hdg ht (fun hc => ka (ite_t hc hF) ls H locs a1 a2 a3 a4) (fun hc => kb (ite_f hc hF) ls H locs a1 a2 a3 a4)
theorem j_icmp_ge (h : OK X own cc rm) {x y : Int32} {off : Int} (tgt : Nat) {fa fb : Option ρ} (ht : (pc : Int) + off = (tgt : Int)) (hdg : decode cc pc = .ok (.if_icmp .ge off, 3)) (hF : (if y ≤ x then fa else fb) = some res) (ka : fa = some res → J X (tgt) lv st S) (kb : fb = some res → J X (pc + 3) lv st S) : J X pc lv (.int y :: .int x :: st) S := fun ls H locs a1 a2 a3 a4 => lv_icmp_ge h.1 h.2.1 hdg ht (fun hc => ka (ite_t hc hF) ls H locs a1 a2 a3 a4) (fun hc => kb (ite_f hc hF) ls H locs a1 a2 a3 a4)
theorem j_if_gt (h : OK X own cc rm) {x : Int32} {off : Int} (tgt : Nat) {fa fb : Option ρ} (ht : (pc : Int) + off = (tgt : Int)) (hdg : decode cc pc = .ok (.ifCond .gt off, 3)) (hF : (if 0 < x then fa else fb) = some res) (ka : fa = some res → J X (tgt) lv st S) (kb : fb = some res → J X (pc + 3) lv st S) : J X pc lv (.int x :: st) S := fun ls H locs a1 a2 a3 a4 => lv_if_gt h.1 h.2.1 hdg ht (fun hc => ka (ite_t hc hF) ls H locs a1 a2 a3 a4) (fun hc => kb (ite_f hc hF) ls H locs a1 a2 a3 a4)
theorem j_icmp_gt (h : OK X own cc rm) {x y : Int32} {off : Int} (tgt : Nat) {fa fb : Option ρ} (ht : (pc : Int) + off = (tgt : Int)) (hdg : decode cc pc = .ok (.if_icmp .gt off, 3)) (hF : (if y < x then fa else fb) = some res) (ka : fa = some res → J X (tgt) lv st S) (kb : fb = some res → J X (pc + 3) lv st S) : J X pc lv (.int y :: .int x :: st) S := fun ls H locs a1 a2 a3 a4 => lv_icmp_gt h.1 h.2.1 hdg ht (fun hc => ka (ite_t hc hF) ls H locs a1 a2 a3 a4) (fun hc => kb (ite_f hc hF) ls H locs a1 a2 a3 a4)
theorem j_if_le (h : OK X own cc rm) {x : Int32} {off : Int} (tgt : Nat) {fa fb : Option ρ} (ht : (pc : Int) + off = (tgt : Int)) (hdg : decode cc pc = .ok (.ifCond .le off, 3)) (hF : (if x ≤ 0 then fa else fb) = some res) (ka : fa = some res → J X (tgt) lv st S) (kb : fb = some res → J X (pc + 3) lv st S) : J X pc lv (.int x :: st) S := fun ls H locs a1 a2 a3 a4 => lv_if_le h.1 h.2.1 hdg ht (fun hc => ka (ite_t hc hF) ls H locs a1 a2 a3 a4) (fun hc => kb (ite_f hc hF) ls H locs a1 a2 a3 a4)
theorem j_icmp_le (h : OK X own cc rm) {x y : Int32} {off : Int} (tgt : Nat) {fa fb : Option ρ} (ht : (pc : Int) + off = (tgt : Int)) (hdg : decode cc pc = .ok (.if_icmp .le off, 3)) (hF : (if x ≤ y then fa else fb) = some res) (ka : fa = some res → J X (tgt) lv st S) (kb : fb = some res → J X (pc + 3) lv st S) : J X pc lv (.int y :: .int x :: st) S := fun ls H locs a1 a2 a3 a4 => lv_icmp_le h.1 h.2.1 hdg ht (fun hc => ka (ite_t hc hF) ls H locs a1 a2 a3 a4) (fun hc => kb (ite_f hc hF) ls H locs a1 a2 a3 a4)
theorem j_goto (h : OK X own cc rm) {off : Int} (tgt : Nat) (ht : (pc : Int) + off = (tgt : Int)) (hdg : decode cc pc = .ok (.goto off, 3)) (k : J X tgt lv st S) : J X pc lv st S := fun ls H locs a1 a2 a3 a4 => lv_goto h.1 h.2.1 hdg ht (k ls H locs a1 a2 a3 a4)
theorem j_tableIn (h : OK X own cc rm) {dflt lo hi : Int} {offs : Array Int} {len : Nat} (off : Int) {x : Int32} (tgt : Nat) (x0 : Int32) (hx : x = x0) (h1 : ¬ x0.toInt < lo) (h2 : ¬ hi < x0.toInt) (ho : offs[(x0.toInt - lo).toNat]? = some off) (ht : (pc : Int) + off = (tgt : Int)) (hdg : decode cc pc = .ok (.tableswitch dflt lo hi offs, len)) (k : J X tgt lv st S) : J X pc lv (.int x :: st) S := by subst hx; exact fun ls H locs a1 a2 a3 a4 => lv_tableIn h.1 h.2.1 hdg h1 h2 ho ht (k ls H locs a1 a2 a3 a4)
theorem j_tableOut (h : OK X own cc rm) {dflt lo hi : Int} {offs : Array Int} {len : Nat} {x : Int32} (tgt : Nat) (h1 : x.toInt < lo ∨ hi < x.toInt) (ht : (pc : Int) + dflt = (tgt : Int)) (hdg : decode cc pc = .ok (.tableswitch dflt lo hi offs, len)) (k : J X tgt lv st S) : J X pc lv (.int x :: st) S := fun ls H locs a1 a2 a3 a4 => lv_tableOut h.1 h.2.1 hdg h1 ht (k ls H locs a1 a2 a3 a4)
theorem j_lookup (h : OK X own cc rm) {dflt : Int} {ps : Array (Int × Int)} {len : Nat} {x : Int32} (off : Int) (tgt : Nat) (hp : (ps.toList.zip (ps.toList.drop 1)).all (fun (a, next) => a.1 < next.1) = true) (ho : Op.lookupswitch.offset ps.toList dflt x.toInt = off) (ht : (pc : Int) + off = (tgt : Int)) (hdg : decode cc pc = .ok (.lookupswitch dflt ps, len)) (k : J X tgt lv st S) : J X pc lv (.int x :: st) S := fun ls H locs a1 a2 a3 a4 => lv_lookup h.1 h.2.1 hdg hp ho ht (k ls H locs a1 a2 a3 a4)
end JR
end
section
/-! the world's family: what a cell holds at S, and what a write makes of S -/
def vO {σ : Type} (B : σ → va_W) (a ci : Nat) (fs : σ → List Value) : Prop := ∀ S, ∃ pos : Nat, (B S)[pos]? = some (a, .inr (ci, fs S))
def vOp {σ : Type} (B : σ → va_W) (a ci : Nat) (fs : σ → List Value) (k : Nat) (put : σ → Int32 → σ) : Prop := ∀ S x, ∃ pos : Nat, (B S)[pos]? = some (a, .inr (ci, fs S)) ∧ (B S).set pos (a, .inr (ci, (fs S).set k (.int x))) = B (put S x)
def vOpl {σ : Type} (B : σ → va_W) (a ci : Nat) (fs : σ → List Value) (k : Nat) (put : σ → Int64 → σ) : Prop := ∀ S x, ∃ pos : Nat, (B S)[pos]? = some (a, .inr (ci, fs S)) ∧ (B S).set pos (a, .inr (ci, (fs S).set k (.long x))) = B (put S x)
def vA {σ : Type} (cI : ClassId) (B : σ → va_W) (a n : Nat) (get : σ → Nat → Int32) : Prop := ∀ S, ∃ pos : Nat, (B S)[pos]? = some (a, .inl (cI, n, .inl (get S)))
def vAp {σ : Type} (cI : ClassId) (B : σ → va_W) (a n : Nat) (get : σ → Nat → Int32) (put : σ → (Nat → Int32) → σ) : Prop := ∀ S g, ∃ pos : Nat, (B S)[pos]? = some (a, .inl (cI, n, .inl (get S))) ∧ (B S).set pos (a, .inl (cI, n, .inl g)) = B (put S g)
def vQ {σ : Type} (cV : ClassId) (B : σ → va_W) (a n : Nat) (get : σ → Nat → Option Nat) : Prop := ∀ S, ∃ pos : Nat, (B S)[pos]? = some (a, .inl (cV, n, .inr (.inr (.inr (.inr (get S))))))
def vQp {σ : Type} (cV : ClassId) (B : σ → va_W) (a n : Nat) (get : σ → Nat → Option Nat) (okv : σ → Nat → Nat → Prop) (put : σ → Nat → Nat → σ) : Prop := ∀ S j v, okv S j v → ∃ pos : Nat, (B S)[pos]? = some (a, .inl (cV, n, .inr (.inr (.inr (.inr (get S)))))) ∧ (B S).set pos (a, .inl (cV, n, .inr (.inr (.inr (.inr (va_up (get S) j (some v))))))) = B (put S j v)
theorem vOp.o {σ : Type} {B : σ → va_W} {a ci : Nat} {fs : σ → List Value} {k : Nat} {put : σ → Int32 → σ} (h : vOp B a ci fs k put) : vO B a ci fs := fun S => let ⟨p, hp, _⟩ := h S 0; ⟨p, hp⟩
theorem vAp.a {σ : Type} {cI : ClassId} {B : σ → va_W} {a n : Nat} {get : σ → Nat → Int32} {put : σ → (Nat → Int32) → σ} (h : vAp cI B a n get put) : vA cI B a n get := fun S => let ⟨p, hp, _⟩ := h S (get S); ⟨p, hp⟩
def jmin (x y : Int32) : Int32 := if y < x then y else x
def jmax (x y : Int32) : Int32 := if x < y then y else x
section JH
variable {σ τ ρ : Type} {X : JX σ} {own : String} {cc : ByteArray} {rm : Room} {pc : Nat} {lv lv' : List (Nat × Value)} {st : List Value} {S S' : σ} {res : ρ}
theorem j_get (h : OK X own cc rm) {a ci N index : Nat} {C : String} {T : u_T} {fs : σ → List Value} {ref name desc : String} {fin : Bool} {v : Value} (hO : vO X.B a ci fs) (hin : ∀ w ∈ u_ws C T N, w ∈ lw_w) (hc : vwCl[ci]? = some (C, T, N)) (k : Nat) (hk : k < N) (hT : T k = (ref, name, desc, fin)) (hq : (Cond.fieldLink own index ref name desc) ∈ lw_w) (hv : (fs S)[k]? = some v) (hdg : decode cc pc = .ok (.getfield index, 3)) (kk : J X (pc + 3) lv (v :: st) S) : J X pc lv (.ref a :: st) S := by
  obtain ⟨hx, hb, hml, hown, hts, hK, hA, hR, hkc, hks⟩ := h
  intro ls H locs a1 a2 a3 a4
  obtain ⟨pos, hpos⟩ := hO S
  exact va_get hx hb hts hin hown hK a2 pos hpos hc k hk (ref := ref) (by rw [hT]; exact hts _ hq) (by rw [hT]; exact fun _ h => h) hv hdg (kk ls H locs a1 a2 a3 a4)
theorem j_put (h : OK X own cc rm) {a ci N index : Nat} {C : String} {T : u_T} {fs : σ → List Value} {ref name : String} {k : Nat} {put : σ → Int32 → σ} {ty0 : Nat → FieldType} {x : Int32} (hO : vOp X.B a ci fs k put) (hin : ∀ w ∈ u_ws C T N, w ∈ lw_w) (hty : ∀ k, k < N → parseFieldDescriptor (T k).2.2.1 = some (ty0 k)) (hnm : ∀ a, a < N → ∀ b, b < N → a ≠ b → (T a).2.1 ≠ (T b).2.1) (hc : vwCl[ci]? = some (C, T, N)) (hk : k < N) (hT : T k = (ref, name, "I", false)) (hq : (Cond.fieldLink own index ref name "I") ∈ lw_w) (hl : k < (fs S).length) (hdg : decode cc pc = .ok (.putfield index, 3)) (kk : J X (pc + 3) lv st (put S x)) : J X pc lv (.int x :: .ref a :: st) S := by
  obtain ⟨hx, hb, hml, hown, hts, hK, hA, hR, hkc, hks⟩ := h
  intro ls H locs a1 a2 a3 a4
  obtain ⟨pos, hpos, hset⟩ := hO S x
  refine va_put hx hb hts hin ty0 hty hnm hown hK a2 a3 a4 pos hpos hc k hk (ref := ref) (by rw [hT]; exact hts _ hq) (by rw [hT]; exact fun _ h => h) (by rw [hT]) (ty := .int) (by rw [hT]; show parseFieldDescriptor "I" = some .int; decide +kernel) rfl rfl hl hdg (fun H1 locs1 b2 b3 b4 => ?_)
  rw [hset] at b2 b3
  exact kk ls H1 locs1 a1 b2 b3 b4
theorem j_putl (h : OK X own cc rm) {a ci N index : Nat} {C : String} {T : u_T} {fs : σ → List Value} {ref name : String} {k : Nat} {put : σ → Int64 → σ} {ty0 : Nat → FieldType} {x : Int64} (hO : vOpl X.B a ci fs k put) (hin : ∀ w ∈ u_ws C T N, w ∈ lw_w) (hty : ∀ k, k < N → parseFieldDescriptor (T k).2.2.1 = some (ty0 k)) (hnm : ∀ a, a < N → ∀ b, b < N → a ≠ b → (T a).2.1 ≠ (T b).2.1) (hc : vwCl[ci]? = some (C, T, N)) (hk : k < N) (hT : T k = (ref, name, "J", false)) (hq : (Cond.fieldLink own index ref name "J") ∈ lw_w) (hl : k < (fs S).length) (hdg : decode cc pc = .ok (.putfield index, 3)) (kk : J X (pc + 3) lv st (put S x)) : J X pc lv (.long x :: .ref a :: st) S := by
  obtain ⟨hx, hb, hml, hown, hts, hK, hA, hR, hkc, hks⟩ := h
  intro ls H locs a1 a2 a3 a4
  obtain ⟨pos, hpos, hset⟩ := hO S x
  refine va_put hx hb hts hin ty0 hty hnm hown hK a2 a3 a4 pos hpos hc k hk (ref := ref) (by rw [hT]; exact hts _ hq) (by rw [hT]; exact fun _ h => h) (by rw [hT]) (ty := .long) (by rw [hT]; show parseFieldDescriptor "J" = some .long; decide +kernel) rfl rfl hl hdg (fun H1 locs1 b2 b3 b4 => ?_)
  rw [hset] at b2 b3
  exact kk ls H1 locs1 a1 b2 b3 b4
theorem j_iald (h : OK X own cc rm) {a n : Nat} {get : σ → Nat → Int32} {i : Int32} (hA1 : vA X.cI X.B a n get) (hin : inb i n = true) (hdg : decode cc pc = .ok (.iaload, 1)) (kk : J X (pc + 1) lv (.int (get S i.toNatClampNeg) :: st) S) : J X pc lv (.int i :: .ref a :: st) S := by
  obtain ⟨hx, hb, hml, hown, hts, hK, hA, hR, hkc, hks⟩ := h
  intro ls H locs a1 a2 a3 a4
  obtain ⟨pos, hpos⟩ := hA1 S
  exact va_iald hx hb hK a2 pos 0 hpos rfl (inb_vp hin) hdg (kk ls H locs a1 a2 a3 a4)
theorem j_iast (h : OK X own cc rm) {a n : Nat} {get : σ → Nat → Int32} {put : σ → (Nat → Int32) → σ} {i x : Int32} (hA1 : vAp X.cI X.B a n get put) (hin : inb i n = true) (hdg : decode cc pc = .ok (.iastore, 1)) (kk : J X (pc + 1) lv st (put S (upd (get S) i.toNatClampNeg x))) : J X pc lv (.int x :: .int i :: .ref a :: st) S := by
  obtain ⟨hx, hb, hml, hown, hts, hK, hA, hR, hkc, hks⟩ := h
  intro ls H locs a1 a2 a3 a4
  obtain ⟨pos, hpos, hset⟩ := hA1 S (upd (get S) i.toNatClampNeg x)
  refine va_iast hx hb hK a2 a3 a4 pos 0 hpos rfl (inb_vp hin) hdg (fun H1 locs1 b2 b3 b4 => ?_)
  rw [hset] at b2 b3
  exact kk ls H1 locs1 a1 b2 b3 b4
theorem j_zald (h : OK X own cc rm) {a n : Nat} {get : σ → Nat → Int32} {i : Int32} (hA1 : vA X.cZ X.B a n get) (hin : inb i n = true) (hdg : decode cc pc = .ok (.baload, 1)) (kk : J X (pc + 1) lv (.int (get S i.toNatClampNeg) :: st) S) : J X pc lv (.int i :: .ref a :: st) S := by
  obtain ⟨hx, hb, hml, hown, hts, hK, hA, hR, hkc, hks⟩ := h
  intro ls H locs a1 a2 a3 a4
  obtain ⟨pos, hpos⟩ := hA1 S
  exact va_zald hx hb hK a2 pos 1 hpos rfl (inb_vp hin) hdg (kk ls H locs a1 a2 a3 a4)
theorem j_zast (h : OK X own cc rm) {a n : Nat} {get : σ → Nat → Int32} {put : σ → (Nat → Int32) → σ} {i x : Int32} (hA1 : vAp X.cZ X.B a n get put) (hin : inb i n = true) (hn : vp_nar .boolean x = x) (hdg : decode cc pc = .ok (.bastore, 1)) (kk : J X (pc + 1) lv st (put S (upd (get S) i.toNatClampNeg x))) : J X pc lv (.int x :: .int i :: .ref a :: st) S := by
  obtain ⟨hx, hb, hml, hown, hts, hK, hA, hR, hkc, hks⟩ := h
  intro ls H locs a1 a2 a3 a4
  obtain ⟨pos, hpos, hset⟩ := hA1 S (upd (get S) i.toNatClampNeg x)
  refine va_zast hx hb hK a2 a3 a4 pos 1 hpos rfl (inb_vp hin) hdg (fun H1 locs1 b2 b3 b4 => ?_)
  rw [hn, hset] at b2 b3
  exact kk ls H1 locs1 a1 b2 b3 b4
theorem j_aald (h : OK X own cc rm) {a n r : Nat} {get : σ → Nat → Option Nat} {i : Int32} (hA1 : vQ X.cV X.B a n get) (hin : inb i n = true) (hr : get S i.toNatClampNeg = some r) (hdg : decode cc pc = .ok (.aaload, 1)) (kk : J X (pc + 1) lv (.ref r :: st) S) : J X pc lv (.int i :: .ref a :: st) S := by
  obtain ⟨hx, hb, hml, hown, hts, hK, hA, hR, hkc, hks⟩ := h
  intro ls H locs a1 a2 a3 a4
  obtain ⟨pos, hpos⟩ := hA1 S
  refine va_aldq hx hb hK a2 pos 2 hpos rfl (inb_vp hin) hdg ?_
  rw [hr]
  exact kk ls H locs a1 a2 a3 a4
theorem j_aast (h : OK X own cc rm) {a n v : Nat} {get : σ → Nat → Option Nat} {okv : σ → Nat → Nat → Prop} {put : σ → Nat → Nat → σ} {i : Int32} {fs : σ → List Value} (hA1 : vQp X.cV X.B a n get okv put) (hin : inb i n = true) (hok : okv S i.toNatClampNeg v) (hO : vO X.B v 5 fs) (hdg : decode cc pc = .ok (.aastore, 1)) (kk : J X (pc + 1) lv st (put S i.toNatClampNeg v)) : J X pc lv (.ref v :: .int i :: .ref a :: st) S := by
  obtain ⟨hx, hb, hml, hown, hts, hK, hA, hR, hkc, hks⟩ := h
  intro ls H locs a1 a2 a3 a4
  obtain ⟨pos, hpos, hset⟩ := hA1 S i.toNatClampNeg v hok
  obtain ⟨pv, hpv⟩ := hO S
  refine va_astq (r := (RX5, TX5, 11)) hx hb hK a2 a3 a4 pos 2 pv 5 hpos rfl hpv rfl (inb_vp hin) hdg (fun H1 locs1 b2 b3 b4 => ?_)
  rw [hset] at b2 b3
  exact kk ls H1 locs1 a1 b2 b3 b4
theorem j_copy (h : OK X own cc rm) {a0 a n0 n1 index : Nat} {f g : σ → Nat → Int32} {put : σ → (Nat → Int32) → σ} {sp dp n : Int32} (sp' dp' n' : Nat) (hA0 : vA X.cI X.B a0 n0 f) (hA1 : vAp X.cI X.B a n1 g put) (e1 : sp.toNatClampNeg = sp') (e2 : dp.toNatClampNeg = dp') (e3 : n.toNatClampNeg = n') (h1 : ¬ sp < 0) (h2 : ¬ dp < 0) (h3 : ¬ n < 0) (h4 : sp' + n' ≤ n0) (h5 : dp' + n' ≤ n1) (hq : (Cond.methodLink own index arraycopyName) ∈ lw_w)
    (hfr : 1 ≤ rm.frames ∧ (st.map fun v => v.category).sum + (nativeFrameWords "java/lang/System" "arraycopy" 5 + 11) ≤ rm.locals) (hdg : decode cc pc = .ok (.invokestatic index, 3)) (kk : J X (pc + 3) lv st (put S (va_cpy (f S) (g S) sp' dp' n'))) : J X pc lv (.int n :: .int dp :: .ref a :: .int sp :: .ref a0 :: st) S := by
  obtain ⟨hx, hb, hml, hown, hts, hK, hA, hR, hkc, hks⟩ := h
  intro ls H locs a1 a2 a3 a4
  subst e1; subst e2; subst e3
  obtain ⟨p0, hp0⟩ := hA0 S
  obtain ⟨pos, hpos, hset⟩ := hA1 S (va_cpy (f S) (g S) sp.toNatClampNeg dp.toNatClampNeg n.toNatClampNeg)
  refine va_copyi hx hb (by rw [hml]; exact a1.1.symm) hown (hts _ hq) (hts _ q2_19) (hts _ q2_18) (hts _ q1_9) hK a2 a3 a4 p0 pos 0 0 hp0 hpos (ty := .int) rfl rfl rfl h1 h2 h3 h4 h5 (fun _ _ => rfl) (by rw [hR]; exact hfr.1) (by rw [hR]; exact hfr.2) hdg (fun H1 locs1 b2 b3 b4 => ?_)
  rw [hset] at b2 b3
  exact kk ls H1 locs1 a1 b2 b3 b4
theorem j_min (h : OK X own cc rm) {index : Nat} {x y : Int32} (hq : (Cond.methodLink own index Lib.Math.min.name) ∈ lw_w) (hfr : 1 ≤ rm.frames ∧ (st.map fun v => v.category).sum + 13 ≤ rm.locals) (hdg : decode cc pc = .ok (.invokestatic index, 3)) (kk : J X (pc + 3) lv (.int (jmin x y) :: st) S) : J X pc lv (.int y :: .int x :: st) S := by
  obtain ⟨hx, hb, hml, hown, hts, hK, hA, hR, hkc, hks⟩ := h
  intro ls H locs a1 a2 a3 a4
  exact va_mmin hx hb (by rw [hml]; exact a1.1.symm) hown (hts _ hq) (hts _ q2_89) (hts _ q1_8) (hts _ q2_90) (by rw [hR]; exact hfr.1) (by rw [hR]; exact hfr.2) (by rw [hR]; exact hkc) (by rw [hR]; exact hks) hdg (kk ls H locs a1 a2 a3 a4)
theorem j_max (h : OK X own cc rm) {index : Nat} {x y : Int32} (hq : (Cond.methodLink own index Lib.Math.max.name) ∈ lw_w) (hfr : 1 ≤ rm.frames ∧ (st.map fun v => v.category).sum + 13 ≤ rm.locals) (hdg : decode cc pc = .ok (.invokestatic index, 3)) (kk : J X (pc + 3) lv (.int (jmax x y) :: st) S) : J X pc lv (.int y :: .int x :: st) S := by
  obtain ⟨hx, hb, hml, hown, hts, hK, hA, hR, hkc, hks⟩ := h
  intro ls H locs a1 a2 a3 a4
  exact va_mmax hx hb (by rw [hml]; exact a1.1.symm) hown (hts _ hq) (hts _ q2_100) (hts _ q1_8) (hts _ q2_101) (by rw [hR]; exact hfr.1) (by rw [hR]; exact hfr.2) (by rw [hR]; exact hkc) (by rw [hR]; exact hks) hdg (kk ls H locs a1 a2 a3 a4)
end JH
/-! contracts over a world's family: from the world of S the method returns r, and the world is that of S' -/
def PreB {τ : Type} (D : va_G) (tys : List (ClassId × FieldType)) (B : τ → va_W) (T : τ) (sz : Nat) : State → Prop := fun U => U.heap.size = sz ∧ va_P D vwCl (B T) U.heap ∧ va_K D vwCl tys U ∧ va_D (fun _ => True) (B T)
def PostB {τ : Type} (D : va_G) (tys : List (ClassId × FieldType)) (B : τ → va_W) (T T' : τ) (sz : Nat) : State → Prop := fun t => va_P D vwCl (B T') t.heap ∧ va_K D vwCl tys t ∧ va_D (va_A (B T) sz) (B T')
def CTi {τ : Type} (l : Launch) (D : va_G) (tys : List (ClassId × FieldType)) (y : MethodName) (bytes : ByteArray) (maxL : Nat) (ret : Option FieldType) (rm : Room) (B : τ → va_W) (av : List Value) (T : τ) (r : Int32) (T' : τ) : Prop := ∀ sz, Met l y (.code y bytes maxL ret :: lw_w) rm (va_Pc av (PreB D tys B T sz)) (va_Qi (fun (r1 : Int32) (_ : Unit) => r1 = r) (fun _ => PostB D tys B T T' sz) (va_A (B T) sz)) 0 0 (va_A (B T) sz)
def CTl {τ : Type} (l : Launch) (D : va_G) (tys : List (ClassId × FieldType)) (y : MethodName) (bytes : ByteArray) (maxL : Nat) (ret : Option FieldType) (rm : Room) (B : τ → va_W) (av : List Value) (T : τ) (r : Int64) (T' : τ) : Prop := ∀ sz, Met l y (.code y bytes maxL ret :: lw_w) rm (va_Pc av (PreB D tys B T sz)) (va_Ql (fun (r1 : Int64) (_ : Unit) => r1 = r) (fun _ => PostB D tys B T T' sz) (va_A (B T) sz)) 0 0 (va_A (B T) sz)
def CTd {τ : Type} (l : Launch) (D : va_G) (tys : List (ClassId × FieldType)) (y : MethodName) (bytes : ByteArray) (maxL : Nat) (ret : Option FieldType) (rm : Room) (B : τ → va_W) (av : List Value) (T : τ) (r : UInt64) (T' : τ) : Prop := ∀ sz, Met l y (.code y bytes maxL ret :: lw_w) rm (va_Pc av (PreB D tys B T sz)) (va_Qd (fun (r1 : UInt64) (_ : Unit) => r1 = r) (fun _ => PostB D tys B T T' sz) (va_A (B T) sz)) 0 0 (va_A (B T) sz)
def CTv {τ : Type} (l : Launch) (D : va_G) (tys : List (ClassId × FieldType)) (y : MethodName) (bytes : ByteArray) (maxL : Nat) (ret : Option FieldType) (rm : Room) (B : τ → va_W) (av : List Value) (T : τ) (T' : τ) : Prop := ∀ sz, Met l y (.code y bytes maxL ret :: lw_w) rm (va_Pc av (PreB D tys B T sz)) (va_Qv (fun (_ : Unit) => True) (fun _ => PostB D tys B T T' sz) (va_A (B T) sz)) 0 0 (va_A (B T) sz)
def CTz {τ : Type} (l : Launch) (D : va_G) (tys : List (ClassId × FieldType)) (y : MethodName) (bytes : ByteArray) (maxL : Nat) (ret : Option FieldType) (rm : Room) (B : τ → va_W) (av : List Value) (T : τ) (r : Int32) (T' : τ) : Prop := ∀ sz, Met l y (.code y bytes maxL ret :: lw_w) rm (va_Pc av (PreB D tys B T sz)) (va_Qi (fun (r1 : Int32) (_ : Unit) => r1 = r ∧ narrow .boolean (.int r) = .int r) (fun _ => PostB D tys B T T' sz) (va_A (B T) sz)) 0 0 (va_A (B T) sz)
theorem PreB.blind {τ : Type} {D : va_G} {tys : List (ClassId × FieldType)} {B : τ → va_W} {T : τ} {sz : Nat} {av : List Value} : FrameBlind (va_Pc av (PreB D tys B T sz)) := fun a U g mk q => by
  obtain ⟨q0, q1, qP, qK, qD⟩ := q
  exact ⟨q0, q1, qP, va_K.moved (u := U) (U := U.calling g mk a) (Vm.Alike.refl U.vm) qK, qD⟩
def CWv (C : String) (y : MethodName) (bytes : ByteArray) (maxL : Nat) (ret : Option FieldType) (n : Nat) : Prop := Cond.instanceMethod y ∈ lw_w ∧ Cond.selects C y y ∈ lw_w ∧ Cond.initialized C ∈ lw_w ∧ Cond.code y bytes maxL ret ∈ lw_w ∧ (y.cls = C ∧ y.cls ≠ "java/lang/invoke/MethodHandle" ∧ y.cls ≠ "java/lang/invoke/VarHandle" ∧ (parseMethodDescriptor y.desc).map (fun d => d.parameters.length) = some n)
def CWs (y : MethodName) (bytes : ByteArray) (maxL : Nat) (ret : Option FieldType) (n : Nat) : Prop := Cond.static y ∈ lw_w ∧ Cond.initialized y.cls ∈ lw_w ∧ Cond.code y bytes maxL ret ∈ lw_w ∧ (y.cls ≠ "java/lang/invoke/MethodHandle" ∧ y.cls ≠ "java/lang/invoke/VarHandle" ∧ (parseMethodDescriptor y.desc).map (fun d => d.parameters.length) = some n)
theorem gi_v {own C : String} {index : Nat} {y : MethodName} {bytes : ByteArray} {maxL n : Nat} {ret : Option FieldType} (q1 : Cond.methodLink own index y ∈ lw_w) (cw : CWv C y bytes maxL ret n) : GoodIn lw_w (wsV own index C y (.code y bytes maxL ret :: lw_w)) := by
  intro w hw
  have hm : w ∈ lw_w := by
    unfold wsV at hw
    simp only [List.cons_append, List.nil_append, List.mem_cons] at hw
    rcases hw with rfl | rfl | rfl | rfl | rfl | hw
    · exact q1
    · exact cw.1
    · exact cw.2.1
    · exact cw.2.2.1
    · exact cw.2.2.2.1
    · exact hw
  exact lw_gi w hm
theorem gi_s {own : String} {index : Nat} {y : MethodName} {bytes : ByteArray} {maxL n : Nat} {ret : Option FieldType} (q1 : Cond.methodLink own index y ∈ lw_w) (cw : CWs y bytes maxL ret n) : GoodIn lw_w (va_wsS own index y (.code y bytes maxL ret :: lw_w)) := by
  intro w hw
  have hm : w ∈ lw_w := by
    unfold va_wsS at hw
    simp only [List.cons_append, List.nil_append, List.mem_cons] at hw
    rcases hw with rfl | rfl | rfl | rfl | hw
    · exact q1
    · exact cw.1
    · exact cw.2.1
    · exact cw.2.2.1
    · exact hw
  exact lw_gi w hm
section JC
variable {σ τ ρ : Type} {X : JX σ} {own C : String} {cc bytes : ByteArray} {rm rmc : Room} {pc index maxL n ci a : Nat} {lv lv' : List (Nat × Value)} {st As : List Value} {S S' : σ} {res : ρ} {y : MethodName} {ret : Option FieldType} {B' : τ → va_W} {T T' : τ} {fs : σ → List Value} {q : vw_C}
def RoomOk (rm rmc : Room) (maxL : Nat) : Prop := rmc.cells = 0 ∧ rmc.slots = 0 ∧ rmc.frames + 1 ≤ rm.frames ∧ 8 + (maxL + 11) + rmc.locals ≤ rm.locals
theorem freeB (hA : ∀ q, X.s.heap.size ≤ q → X.A q) {H : Heap} {locs : List Loc} (hB : B' T = X.B S) (a3 : va_D X.A (X.B S)) (a4 : va_S X.A X.s.heap H locs) : ∀ q, va_A (B' T) H.size q → X.A q := by
  intro q hq
  rcases hq with ⟨k, e, hk⟩ | hq
  · rw [hB] at hk; exact a3.2 k (q, e) hk
  · exact hA q (Nat.le_trans a4.1 hq)
theorem preB {D : va_G} {tys : List (ClassId × FieldType)} {s : State} {H : Heap} {B : σ → va_W} {A : Nat → Prop} (hB : B' T = B S) (hK : va_K D vwCl tys s) (a2 : va_P D vwCl (B S) H) (a3 : va_D A (B S)) (U : State) (hU : U.heap = H) (hW : s.WarmedH U.vm) : PreB D tys B' T H.size U := ⟨by rw [hU], by rw [hU, hB]; exact a2, va_K.moved hW.alike hK, by rw [hB]; exact a3.weaken (fun _ _ _ _ => trivial)⟩
theorem j_callVi (h : OK X own cc rm) {r : Int32} (hM : CTi X.l X.D (jtys X.cI X.cZ X.cV) y bytes maxL ret rmc B' (.ref a :: As) T r T') (hB : B' T = X.B S) (hB' : B' T' = X.B S') (q1 : Cond.methodLink own index y ∈ lw_w) (cw : CWv C y bytes maxL ret n) (hO : vO X.B a ci fs) (hc : vwCl[ci]? = some q) (hC : q.1 = C) (hn : As.length = n) (hroom : RoomOk rm rmc maxL) (st0 : List Value) (hst0 : st0 = As.reverse ++ .ref a :: st) (hst : (st.map fun v => v.category).sum ≤ 8) (hdg : decode cc pc = .ok (.invokevirtual index, 3)) (kk : J X (pc + 3) lv (.int r :: st) S') : J X pc lv st0 S := by
  obtain ⟨hx, hb, hml, hown, hts, hK, hA, hR, hkc, hks⟩ := h
  subst hst0
  intro ls H locs a1 a2 a3 a4
  have hFc := freeB (T := T) hA hB a3 a4
  refine va_calli (va_runV (As := As) (rest := st) ⟨hx, hb, hml, hown, hts⟩ (hM H.size) (cwV n hts (gi_v q1 cw) rfl hroom.1 hroom.2.1 cw.2.2.2.2 (by rw [hR]; exact hroom.2.2)) ⟨PreB.blind, by obtain ⟨pos, hpos⟩ := hO S; rw [← hC]; exact va_recv hK a2 hc hpos, fun U hU hW => ⟨rfl, preB hB hK a2 a3 U hU hW⟩⟩ rfl hn a1.1 rfl (lv_room hst) hdg ⟨by rw [hR]; exact hkc, by rw [hR]; exact hks⟩) a4 (fun q _ h => hFc q h) hFc (fun r1 u t H1 locs1 ht hvm hw hB1 hz1 hk1 hS1 => ?_)
  obtain ⟨hP1, hK1, hD1⟩ := hB1
  subst hw
  rw [ht] at hP1
  exact kk ls H1 locs1 a1 (by rw [← hB']; exact hP1) (by rw [← hB']; exact hD1.weaken (fun k q _ hq => hFc q.1 hq)) hS1
theorem j_callSi (h : OK X own cc rm) {r : Int32} (hM : CTi X.l X.D (jtys X.cI X.cZ X.cV) y bytes maxL ret rmc B' (As) T r T') (hB : B' T = X.B S) (hB' : B' T' = X.B S') (q1 : Cond.methodLink own index y ∈ lw_w) (cw : CWs y bytes maxL ret n) (hn : As.length = n) (hroom : RoomOk rm rmc maxL) (st0 : List Value) (hst0 : st0 = As.reverse ++ st) (hst : (st.map fun v => v.category).sum ≤ 8) (hdg : decode cc pc = .ok (.invokestatic index, 3)) (kk : J X (pc + 3) lv (.int r :: st) S') : J X pc lv st0 S := by
  obtain ⟨hx, hb, hml, hown, hts, hK, hA, hR, hkc, hks⟩ := h
  subst hst0
  intro ls H locs a1 a2 a3 a4
  have hFc := freeB (T := T) hA hB a3 a4
  refine va_calli (va_runS (As := As) (rest := st) ⟨hx, hb, hml, hown, hts⟩ (hM H.size) (va_cwS n hts (gi_s q1 cw) rfl hroom.1 hroom.2.1 cw.2.2.2 (by rw [hR]; exact hroom.2.2)) ⟨PreB.blind, fun U hU hW => ⟨rfl, preB hB hK a2 a3 U hU hW⟩⟩ rfl hn a1.1 rfl (lv_room hst) hdg ⟨by rw [hR]; exact hkc, by rw [hR]; exact hks⟩) a4 (fun q _ h => hFc q h) hFc (fun r1 u t H1 locs1 ht hvm hw hB1 hz1 hk1 hS1 => ?_)
  obtain ⟨hP1, hK1, hD1⟩ := hB1
  subst hw
  rw [ht] at hP1
  exact kk ls H1 locs1 a1 (by rw [← hB']; exact hP1) (by rw [← hB']; exact hD1.weaken (fun k q _ hq => hFc q.1 hq)) hS1
theorem j_callVz (h : OK X own cc rm) {r : Int32} (hM : CTz X.l X.D (jtys X.cI X.cZ X.cV) y bytes maxL ret rmc B' (.ref a :: As) T r T') (hB : B' T = X.B S) (hB' : B' T' = X.B S') (q1 : Cond.methodLink own index y ∈ lw_w) (cw : CWv C y bytes maxL ret n) (hO : vO X.B a ci fs) (hc : vwCl[ci]? = some q) (hC : q.1 = C) (hn : As.length = n) (hroom : RoomOk rm rmc maxL) (st0 : List Value) (hst0 : st0 = As.reverse ++ .ref a :: st) (hst : (st.map fun v => v.category).sum ≤ 8) (hdg : decode cc pc = .ok (.invokevirtual index, 3)) (kk : narrow .boolean (.int r) = .int r → J X (pc + 3) lv (.int r :: st) S') : J X pc lv st0 S := by
  obtain ⟨hx, hb, hml, hown, hts, hK, hA, hR, hkc, hks⟩ := h
  subst hst0
  intro ls H locs a1 a2 a3 a4
  have hFc := freeB (T := T) hA hB a3 a4
  refine va_calli (va_runV (As := As) (rest := st) ⟨hx, hb, hml, hown, hts⟩ (hM H.size) (cwV n hts (gi_v q1 cw) rfl hroom.1 hroom.2.1 cw.2.2.2.2 (by rw [hR]; exact hroom.2.2)) ⟨PreB.blind, by obtain ⟨pos, hpos⟩ := hO S; rw [← hC]; exact va_recv hK a2 hc hpos, fun U hU hW => ⟨rfl, preB hB hK a2 a3 U hU hW⟩⟩ rfl hn a1.1 rfl (lv_room hst) hdg ⟨by rw [hR]; exact hkc, by rw [hR]; exact hks⟩) a4 (fun q _ h => hFc q h) hFc (fun r1 u t H1 locs1 ht hvm hw hB1 hz1 hk1 hS1 => ?_)
  obtain ⟨hP1, hK1, hD1⟩ := hB1
  obtain ⟨hw, hz⟩ := hw
  subst hw
  rw [ht] at hP1
  exact kk hz ls H1 locs1 a1 (by rw [← hB']; exact hP1) (by rw [← hB']; exact hD1.weaken (fun k q _ hq => hFc q.1 hq)) hS1
theorem j_callSz (h : OK X own cc rm) {r : Int32} (hM : CTz X.l X.D (jtys X.cI X.cZ X.cV) y bytes maxL ret rmc B' (As) T r T') (hB : B' T = X.B S) (hB' : B' T' = X.B S') (q1 : Cond.methodLink own index y ∈ lw_w) (cw : CWs y bytes maxL ret n) (hn : As.length = n) (hroom : RoomOk rm rmc maxL) (st0 : List Value) (hst0 : st0 = As.reverse ++ st) (hst : (st.map fun v => v.category).sum ≤ 8) (hdg : decode cc pc = .ok (.invokestatic index, 3)) (kk : narrow .boolean (.int r) = .int r → J X (pc + 3) lv (.int r :: st) S') : J X pc lv st0 S := by
  obtain ⟨hx, hb, hml, hown, hts, hK, hA, hR, hkc, hks⟩ := h
  subst hst0
  intro ls H locs a1 a2 a3 a4
  have hFc := freeB (T := T) hA hB a3 a4
  refine va_calli (va_runS (As := As) (rest := st) ⟨hx, hb, hml, hown, hts⟩ (hM H.size) (va_cwS n hts (gi_s q1 cw) rfl hroom.1 hroom.2.1 cw.2.2.2 (by rw [hR]; exact hroom.2.2)) ⟨PreB.blind, fun U hU hW => ⟨rfl, preB hB hK a2 a3 U hU hW⟩⟩ rfl hn a1.1 rfl (lv_room hst) hdg ⟨by rw [hR]; exact hkc, by rw [hR]; exact hks⟩) a4 (fun q _ h => hFc q h) hFc (fun r1 u t H1 locs1 ht hvm hw hB1 hz1 hk1 hS1 => ?_)
  obtain ⟨hP1, hK1, hD1⟩ := hB1
  obtain ⟨hw, hz⟩ := hw
  subst hw
  rw [ht] at hP1
  exact kk hz ls H1 locs1 a1 (by rw [← hB']; exact hP1) (by rw [← hB']; exact hD1.weaken (fun k q _ hq => hFc q.1 hq)) hS1
theorem j_callVl (h : OK X own cc rm) {r : Int64} (hM : CTl X.l X.D (jtys X.cI X.cZ X.cV) y bytes maxL ret rmc B' (.ref a :: As) T r T') (hB : B' T = X.B S) (hB' : B' T' = X.B S') (q1 : Cond.methodLink own index y ∈ lw_w) (cw : CWv C y bytes maxL ret n) (hO : vO X.B a ci fs) (hc : vwCl[ci]? = some q) (hC : q.1 = C) (hn : As.length = n) (hroom : RoomOk rm rmc maxL) (st0 : List Value) (hst0 : st0 = As.reverse ++ .ref a :: st) (hst : (st.map fun v => v.category).sum ≤ 8) (hdg : decode cc pc = .ok (.invokevirtual index, 3)) (kk : J X (pc + 3) lv (.long r :: st) S') : J X pc lv st0 S := by
  obtain ⟨hx, hb, hml, hown, hts, hK, hA, hR, hkc, hks⟩ := h
  subst hst0
  intro ls H locs a1 a2 a3 a4
  have hFc := freeB (T := T) hA hB a3 a4
  refine va_calll (va_runV (As := As) (rest := st) ⟨hx, hb, hml, hown, hts⟩ (hM H.size) (cwV n hts (gi_v q1 cw) rfl hroom.1 hroom.2.1 cw.2.2.2.2 (by rw [hR]; exact hroom.2.2)) ⟨PreB.blind, by obtain ⟨pos, hpos⟩ := hO S; rw [← hC]; exact va_recv hK a2 hc hpos, fun U hU hW => ⟨rfl, preB hB hK a2 a3 U hU hW⟩⟩ rfl hn a1.1 rfl (lv_room hst) hdg ⟨by rw [hR]; exact hkc, by rw [hR]; exact hks⟩) a4 (fun q _ h => hFc q h) hFc (fun r1 u t H1 locs1 ht hvm hw hB1 hz1 hk1 hS1 => ?_)
  obtain ⟨hP1, hK1, hD1⟩ := hB1
  subst hw
  rw [ht] at hP1
  exact kk ls H1 locs1 a1 (by rw [← hB']; exact hP1) (by rw [← hB']; exact hD1.weaken (fun k q _ hq => hFc q.1 hq)) hS1
theorem j_callSl (h : OK X own cc rm) {r : Int64} (hM : CTl X.l X.D (jtys X.cI X.cZ X.cV) y bytes maxL ret rmc B' (As) T r T') (hB : B' T = X.B S) (hB' : B' T' = X.B S') (q1 : Cond.methodLink own index y ∈ lw_w) (cw : CWs y bytes maxL ret n) (hn : As.length = n) (hroom : RoomOk rm rmc maxL) (st0 : List Value) (hst0 : st0 = As.reverse ++ st) (hst : (st.map fun v => v.category).sum ≤ 8) (hdg : decode cc pc = .ok (.invokestatic index, 3)) (kk : J X (pc + 3) lv (.long r :: st) S') : J X pc lv st0 S := by
  obtain ⟨hx, hb, hml, hown, hts, hK, hA, hR, hkc, hks⟩ := h
  subst hst0
  intro ls H locs a1 a2 a3 a4
  have hFc := freeB (T := T) hA hB a3 a4
  refine va_calll (va_runS (As := As) (rest := st) ⟨hx, hb, hml, hown, hts⟩ (hM H.size) (va_cwS n hts (gi_s q1 cw) rfl hroom.1 hroom.2.1 cw.2.2.2 (by rw [hR]; exact hroom.2.2)) ⟨PreB.blind, fun U hU hW => ⟨rfl, preB hB hK a2 a3 U hU hW⟩⟩ rfl hn a1.1 rfl (lv_room hst) hdg ⟨by rw [hR]; exact hkc, by rw [hR]; exact hks⟩) a4 (fun q _ h => hFc q h) hFc (fun r1 u t H1 locs1 ht hvm hw hB1 hz1 hk1 hS1 => ?_)
  obtain ⟨hP1, hK1, hD1⟩ := hB1
  subst hw
  rw [ht] at hP1
  exact kk ls H1 locs1 a1 (by rw [← hB']; exact hP1) (by rw [← hB']; exact hD1.weaken (fun k q _ hq => hFc q.1 hq)) hS1
theorem j_callVd (h : OK X own cc rm) {r : UInt64} (hM : CTd X.l X.D (jtys X.cI X.cZ X.cV) y bytes maxL ret rmc B' (.ref a :: As) T r T') (hB : B' T = X.B S) (hB' : B' T' = X.B S') (q1 : Cond.methodLink own index y ∈ lw_w) (cw : CWv C y bytes maxL ret n) (hO : vO X.B a ci fs) (hc : vwCl[ci]? = some q) (hC : q.1 = C) (hn : As.length = n) (hroom : RoomOk rm rmc maxL) (st0 : List Value) (hst0 : st0 = As.reverse ++ .ref a :: st) (hst : (st.map fun v => v.category).sum ≤ 8) (hdg : decode cc pc = .ok (.invokevirtual index, 3)) (kk : J X (pc + 3) lv (.double r :: st) S') : J X pc lv st0 S := by
  obtain ⟨hx, hb, hml, hown, hts, hK, hA, hR, hkc, hks⟩ := h
  subst hst0
  intro ls H locs a1 a2 a3 a4
  have hFc := freeB (T := T) hA hB a3 a4
  refine va_calld (va_runV (As := As) (rest := st) ⟨hx, hb, hml, hown, hts⟩ (hM H.size) (cwV n hts (gi_v q1 cw) rfl hroom.1 hroom.2.1 cw.2.2.2.2 (by rw [hR]; exact hroom.2.2)) ⟨PreB.blind, by obtain ⟨pos, hpos⟩ := hO S; rw [← hC]; exact va_recv hK a2 hc hpos, fun U hU hW => ⟨rfl, preB hB hK a2 a3 U hU hW⟩⟩ rfl hn a1.1 rfl (lv_room hst) hdg ⟨by rw [hR]; exact hkc, by rw [hR]; exact hks⟩) a4 (fun q _ h => hFc q h) hFc (fun r1 u t H1 locs1 ht hvm hw hB1 hz1 hk1 hS1 => ?_)
  obtain ⟨hP1, hK1, hD1⟩ := hB1
  subst hw
  rw [ht] at hP1
  exact kk ls H1 locs1 a1 (by rw [← hB']; exact hP1) (by rw [← hB']; exact hD1.weaken (fun k q _ hq => hFc q.1 hq)) hS1
theorem j_callSd (h : OK X own cc rm) {r : UInt64} (hM : CTd X.l X.D (jtys X.cI X.cZ X.cV) y bytes maxL ret rmc B' (As) T r T') (hB : B' T = X.B S) (hB' : B' T' = X.B S') (q1 : Cond.methodLink own index y ∈ lw_w) (cw : CWs y bytes maxL ret n) (hn : As.length = n) (hroom : RoomOk rm rmc maxL) (st0 : List Value) (hst0 : st0 = As.reverse ++ st) (hst : (st.map fun v => v.category).sum ≤ 8) (hdg : decode cc pc = .ok (.invokestatic index, 3)) (kk : J X (pc + 3) lv (.double r :: st) S') : J X pc lv st0 S := by
  obtain ⟨hx, hb, hml, hown, hts, hK, hA, hR, hkc, hks⟩ := h
  subst hst0
  intro ls H locs a1 a2 a3 a4
  have hFc := freeB (T := T) hA hB a3 a4
  refine va_calld (va_runS (As := As) (rest := st) ⟨hx, hb, hml, hown, hts⟩ (hM H.size) (va_cwS n hts (gi_s q1 cw) rfl hroom.1 hroom.2.1 cw.2.2.2 (by rw [hR]; exact hroom.2.2)) ⟨PreB.blind, fun U hU hW => ⟨rfl, preB hB hK a2 a3 U hU hW⟩⟩ rfl hn a1.1 rfl (lv_room hst) hdg ⟨by rw [hR]; exact hkc, by rw [hR]; exact hks⟩) a4 (fun q _ h => hFc q h) hFc (fun r1 u t H1 locs1 ht hvm hw hB1 hz1 hk1 hS1 => ?_)
  obtain ⟨hP1, hK1, hD1⟩ := hB1
  subst hw
  rw [ht] at hP1
  exact kk ls H1 locs1 a1 (by rw [← hB']; exact hP1) (by rw [← hB']; exact hD1.weaken (fun k q _ hq => hFc q.1 hq)) hS1
theorem j_callVv (h : OK X own cc rm) (hM : CTv X.l X.D (jtys X.cI X.cZ X.cV) y bytes maxL ret rmc B' (.ref a :: As) T T') (hB : B' T = X.B S) (hB' : B' T' = X.B S') (q1 : Cond.methodLink own index y ∈ lw_w) (cw : CWv C y bytes maxL ret n) (hO : vO X.B a ci fs) (hc : vwCl[ci]? = some q) (hC : q.1 = C) (hn : As.length = n) (hroom : RoomOk rm rmc maxL) (st0 : List Value) (hst0 : st0 = As.reverse ++ .ref a :: st) (hst : (st.map fun v => v.category).sum ≤ 8) (hdg : decode cc pc = .ok (.invokevirtual index, 3)) (kk : J X (pc + 3) lv st S') : J X pc lv st0 S := by
  obtain ⟨hx, hb, hml, hown, hts, hK, hA, hR, hkc, hks⟩ := h
  subst hst0
  intro ls H locs a1 a2 a3 a4
  have hFc := freeB (T := T) hA hB a3 a4
  refine va_callv (va_runV (As := As) (rest := st) ⟨hx, hb, hml, hown, hts⟩ (hM H.size) (cwV n hts (gi_v q1 cw) rfl hroom.1 hroom.2.1 cw.2.2.2.2 (by rw [hR]; exact hroom.2.2)) ⟨PreB.blind, by obtain ⟨pos, hpos⟩ := hO S; rw [← hC]; exact va_recv hK a2 hc hpos, fun U hU hW => ⟨rfl, preB hB hK a2 a3 U hU hW⟩⟩ rfl hn a1.1 rfl (lv_room hst) hdg ⟨by rw [hR]; exact hkc, by rw [hR]; exact hks⟩) a4 (fun q _ h => hFc q h) hFc (fun u t H1 locs1 ht hvm hw hB1 hz1 hk1 hS1 => ?_)
  obtain ⟨hP1, hK1, hD1⟩ := hB1
  rw [ht] at hP1
  exact kk ls H1 locs1 a1 (by rw [← hB']; exact hP1) (by rw [← hB']; exact hD1.weaken (fun k q _ hq => hFc q.1 hq)) hS1
theorem j_callSv (h : OK X own cc rm) (hM : CTv X.l X.D (jtys X.cI X.cZ X.cV) y bytes maxL ret rmc B' (As) T T') (hB : B' T = X.B S) (hB' : B' T' = X.B S') (q1 : Cond.methodLink own index y ∈ lw_w) (cw : CWs y bytes maxL ret n) (hn : As.length = n) (hroom : RoomOk rm rmc maxL) (st0 : List Value) (hst0 : st0 = As.reverse ++ st) (hst : (st.map fun v => v.category).sum ≤ 8) (hdg : decode cc pc = .ok (.invokestatic index, 3)) (kk : J X (pc + 3) lv st S') : J X pc lv st0 S := by
  obtain ⟨hx, hb, hml, hown, hts, hK, hA, hR, hkc, hks⟩ := h
  subst hst0
  intro ls H locs a1 a2 a3 a4
  have hFc := freeB (T := T) hA hB a3 a4
  refine va_callv (va_runS (As := As) (rest := st) ⟨hx, hb, hml, hown, hts⟩ (hM H.size) (va_cwS n hts (gi_s q1 cw) rfl hroom.1 hroom.2.1 cw.2.2.2 (by rw [hR]; exact hroom.2.2)) ⟨PreB.blind, fun U hU hW => ⟨rfl, preB hB hK a2 a3 U hU hW⟩⟩ rfl hn a1.1 rfl (lv_room hst) hdg ⟨by rw [hR]; exact hkc, by rw [hR]; exact hks⟩) a4 (fun q _ h => hFc q h) hFc (fun u t H1 locs1 ht hvm hw hB1 hz1 hk1 hS1 => ?_)
  obtain ⟨hP1, hK1, hD1⟩ := hB1
  rw [ht] at hP1
  exact kk ls H1 locs1 a1 (by rw [← hB']; exact hP1) (by rw [← hB']; exact hD1.weaken (fun k q _ hq => hFc q.1 hq)) hS1
end JC
def EXi {σ : Type} (X : JX σ) (cc : ByteArray) (r : Int32) (S : σ) : Prop := ∀ (pc : Nat) (lv : List (Nat × Value)), decode cc pc = .ok (.ireturn, 1) → J X pc lv [.int r] S
def EXl {σ : Type} (X : JX σ) (cc : ByteArray) (r : Int64) (S : σ) : Prop := ∀ (pc : Nat) (lv : List (Nat × Value)), decode cc pc = .ok (.lreturn, 1) → J X pc lv [.long r] S
def EXd {σ : Type} (X : JX σ) (cc : ByteArray) (r : UInt64) (S : σ) : Prop := ∀ (pc : Nat) (lv : List (Nat × Value)), decode cc pc = .ok (.dreturn, 1) → J X pc lv [.double r] S
def EXz {σ : Type} (X : JX σ) (cc : ByteArray) (r : Int32) (S : σ) : Prop := ∀ (pc : Nat) (lv : List (Nat × Value)), decode cc pc = .ok (.ireturn, 1) → narrow .boolean (.int r) = .int r → J X pc lv [.int r] S
def EXv {σ : Type} (X : JX σ) (cc : ByteArray) (S : σ) : Prop := ∀ (pc : Nat) (lv : List (Nat × Value)), decode cc pc = .ok (.return_, 1) → J X pc lv [] S
set_option maxHeartbeats 1000000 in
theorem CTi.of {τ : Type} {l : Launch} {D : va_G} {cI cZ cV : ClassId} {y : MethodName} {bytes : ByteArray} {maxL : Nat} {rm : Room} {B : τ → va_W} {av : List Value} {T T' : τ} {r : Int32} (lv0 : List (Nat × Value)) (hlv : lv_args 0 av = lv0) (hsl : (lg_sl av).length ≤ maxL) (hy : plainName y.cls = true) (hrm : rm.cells = 0 ∧ rm.slots = 0) 
    (body : ∀ X : JX τ, X.l = l → X.D = D → X.cI = cI → X.cZ = cZ → X.cV = cV → X.B = B → X.nL = maxL → OK X y.cls bytes rm → EXi X bytes r T' → J X 0 lv0 [] T) : CTi l D (jtys cI cZ cV) y bytes maxL (some .int) rm B av T r T' := by
  intro sz
  refine Met.ofW (cc := bytes) (maxL := maxL) (ret := some .int) hy rfl ?_
  intro p e s m args below meth c s₁ Bd hml hv
  obtain ⟨rfl, hsz, hP, hK, hD0⟩ := hv
  subst hsz
  have hx := Bd.exec
  have hb := Bd.bytes
  have hr := Bd.returns
  have hts0 := atoms_spec (ws := .code y bytes maxL (some .int) :: lw_w) Bd.pre
  have hts : ∀ w ∈ lw_w, w.before av.toArray s = true := fun w hw => hts0 w (List.mem_cons_of_mem _ hw)
  have hown : s.vm.findClass y.cls = some m.cls := findClass_of_methodNamed Bd.named
  have hlocks := Bd.notSynchronized
  have hD := hD0.self (sz := s.heap.size)
  have hA : ∀ q : Nat, s.heap.size ≤ q → va_A (B T) s.heap.size q := fun q h => Or.inr h
  have hS : va_S (va_A (B T) s.heap.size) s.heap s.heap [] := va_S.rf
  have hl := lv_entry av (n := maxL) hsl
  rw [lg_entry_eq]
  rw [hlv] at hl
  exact body ((p, l, e, rm, s), (m, av.toArray, below, meth, c), (maxL, D, cI, cZ, cV), (0, 0), (va_A (B T) s.heap.size, MQ below (va_Qi (fun (r1 : Int32) (_ : Unit) => r1 = r) (fun _ => PostB D (jtys cI cZ cV) B T T' s.heap.size) (va_A (B T) s.heap.size)) av.toArray s 0 0 (va_A (B T) s.heap.size), B)) rfl rfl rfl rfl rfl rfl rfl ⟨hx, hb, hml, hown, hts, hK, hA, rfl, Nat.zero_le _, Nat.zero_le _⟩
    (fun pc lv hdg ls H locs a1 a2 a3 a4 => W.iret hx hb hr (fun t ht hW => ⟨⟨r, (), rfl, rfl, (by rw [ht]; exact a2), va_K.moved hW.alike hK, a3⟩, a4.F ht⟩) a4.2.2 hdg) _ _ _ hl hP hD hS
set_option maxHeartbeats 1000000 in
theorem CTl.of {τ : Type} {l : Launch} {D : va_G} {cI cZ cV : ClassId} {y : MethodName} {bytes : ByteArray} {maxL : Nat} {rm : Room} {B : τ → va_W} {av : List Value} {T T' : τ} {r : Int64} (lv0 : List (Nat × Value)) (hlv : lv_args 0 av = lv0) (hsl : (lg_sl av).length ≤ maxL) (hy : plainName y.cls = true) (hrm : rm.cells = 0 ∧ rm.slots = 0) 
    (body : ∀ X : JX τ, X.l = l → X.D = D → X.cI = cI → X.cZ = cZ → X.cV = cV → X.B = B → X.nL = maxL → OK X y.cls bytes rm → EXl X bytes r T' → J X 0 lv0 [] T) : CTl l D (jtys cI cZ cV) y bytes maxL (some .long) rm B av T r T' := by
  intro sz
  refine Met.ofW (cc := bytes) (maxL := maxL) (ret := some .long) hy rfl ?_
  intro p e s m args below meth c s₁ Bd hml hv
  obtain ⟨rfl, hsz, hP, hK, hD0⟩ := hv
  subst hsz
  have hx := Bd.exec
  have hb := Bd.bytes
  have hr := Bd.returns
  have hts0 := atoms_spec (ws := .code y bytes maxL (some .long) :: lw_w) Bd.pre
  have hts : ∀ w ∈ lw_w, w.before av.toArray s = true := fun w hw => hts0 w (List.mem_cons_of_mem _ hw)
  have hown : s.vm.findClass y.cls = some m.cls := findClass_of_methodNamed Bd.named
  have hlocks := Bd.notSynchronized
  have hD := hD0.self (sz := s.heap.size)
  have hA : ∀ q : Nat, s.heap.size ≤ q → va_A (B T) s.heap.size q := fun q h => Or.inr h
  have hS : va_S (va_A (B T) s.heap.size) s.heap s.heap [] := va_S.rf
  have hl := lv_entry av (n := maxL) hsl
  rw [lg_entry_eq]
  rw [hlv] at hl
  exact body ((p, l, e, rm, s), (m, av.toArray, below, meth, c), (maxL, D, cI, cZ, cV), (0, 0), (va_A (B T) s.heap.size, MQ below (va_Ql (fun (r1 : Int64) (_ : Unit) => r1 = r) (fun _ => PostB D (jtys cI cZ cV) B T T' s.heap.size) (va_A (B T) s.heap.size)) av.toArray s 0 0 (va_A (B T) s.heap.size), B)) rfl rfl rfl rfl rfl rfl rfl ⟨hx, hb, hml, hown, hts, hK, hA, rfl, Nat.zero_le _, Nat.zero_le _⟩
    (fun pc lv hdg ls H locs a1 a2 a3 a4 => W.lret hx hb hr (fun t ht hW => ⟨⟨r, (), rfl, rfl, (by rw [ht]; exact a2), va_K.moved hW.alike hK, a3⟩, a4.F ht⟩) a4.2.2 hdg) _ _ _ hl hP hD hS
set_option maxHeartbeats 1000000 in
theorem CTd.of {τ : Type} {l : Launch} {D : va_G} {cI cZ cV : ClassId} {y : MethodName} {bytes : ByteArray} {maxL : Nat} {rm : Room} {B : τ → va_W} {av : List Value} {T T' : τ} {r : UInt64} (lv0 : List (Nat × Value)) (hlv : lv_args 0 av = lv0) (hsl : (lg_sl av).length ≤ maxL) (hy : plainName y.cls = true) (hrm : rm.cells = 0 ∧ rm.slots = 0) 
    (body : ∀ X : JX τ, X.l = l → X.D = D → X.cI = cI → X.cZ = cZ → X.cV = cV → X.B = B → X.nL = maxL → OK X y.cls bytes rm → EXd X bytes r T' → J X 0 lv0 [] T) : CTd l D (jtys cI cZ cV) y bytes maxL (some .double) rm B av T r T' := by
  intro sz
  refine Met.ofW (cc := bytes) (maxL := maxL) (ret := some .double) hy rfl ?_
  intro p e s m args below meth c s₁ Bd hml hv
  obtain ⟨rfl, hsz, hP, hK, hD0⟩ := hv
  subst hsz
  have hx := Bd.exec
  have hb := Bd.bytes
  have hr := Bd.returns
  have hts0 := atoms_spec (ws := .code y bytes maxL (some .double) :: lw_w) Bd.pre
  have hts : ∀ w ∈ lw_w, w.before av.toArray s = true := fun w hw => hts0 w (List.mem_cons_of_mem _ hw)
  have hown : s.vm.findClass y.cls = some m.cls := findClass_of_methodNamed Bd.named
  have hlocks := Bd.notSynchronized
  have hD := hD0.self (sz := s.heap.size)
  have hA : ∀ q : Nat, s.heap.size ≤ q → va_A (B T) s.heap.size q := fun q h => Or.inr h
  have hS : va_S (va_A (B T) s.heap.size) s.heap s.heap [] := va_S.rf
  have hl := lv_entry av (n := maxL) hsl
  rw [lg_entry_eq]
  rw [hlv] at hl
  exact body ((p, l, e, rm, s), (m, av.toArray, below, meth, c), (maxL, D, cI, cZ, cV), (0, 0), (va_A (B T) s.heap.size, MQ below (va_Qd (fun (r1 : UInt64) (_ : Unit) => r1 = r) (fun _ => PostB D (jtys cI cZ cV) B T T' s.heap.size) (va_A (B T) s.heap.size)) av.toArray s 0 0 (va_A (B T) s.heap.size), B)) rfl rfl rfl rfl rfl rfl rfl ⟨hx, hb, hml, hown, hts, hK, hA, rfl, Nat.zero_le _, Nat.zero_le _⟩
    (fun pc lv hdg ls H locs a1 a2 a3 a4 => W.dret hx hb hr (fun t ht hW => ⟨⟨r, (), rfl, rfl, (by rw [ht]; exact a2), va_K.moved hW.alike hK, a3⟩, a4.F ht⟩) a4.2.2 hdg) _ _ _ hl hP hD hS
set_option maxHeartbeats 1000000 in
theorem CTz.of {τ : Type} {l : Launch} {D : va_G} {cI cZ cV : ClassId} {y : MethodName} {bytes : ByteArray} {maxL : Nat} {rm : Room} {B : τ → va_W} {av : List Value} {T T' : τ} {r : Int32} (lv0 : List (Nat × Value)) (hlv : lv_args 0 av = lv0) (hsl : (lg_sl av).length ≤ maxL) (hy : plainName y.cls = true) (hrm : rm.cells = 0 ∧ rm.slots = 0) 
    (body : ∀ X : JX τ, X.l = l → X.D = D → X.cI = cI → X.cZ = cZ → X.cV = cV → X.B = B → X.nL = maxL → OK X y.cls bytes rm → EXz X bytes r T' → J X 0 lv0 [] T) : CTz l D (jtys cI cZ cV) y bytes maxL (some .boolean) rm B av T r T' := by
  intro sz
  refine Met.ofW (cc := bytes) (maxL := maxL) (ret := some .boolean) hy rfl ?_
  intro p e s m args below meth c s₁ Bd hml hv
  obtain ⟨rfl, hsz, hP, hK, hD0⟩ := hv
  subst hsz
  have hx := Bd.exec
  have hb := Bd.bytes
  have hr := Bd.returns
  have hts0 := atoms_spec (ws := .code y bytes maxL (some .boolean) :: lw_w) Bd.pre
  have hts : ∀ w ∈ lw_w, w.before av.toArray s = true := fun w hw => hts0 w (List.mem_cons_of_mem _ hw)
  have hown : s.vm.findClass y.cls = some m.cls := findClass_of_methodNamed Bd.named
  have hlocks := Bd.notSynchronized
  have hD := hD0.self (sz := s.heap.size)
  have hA : ∀ q : Nat, s.heap.size ≤ q → va_A (B T) s.heap.size q := fun q h => Or.inr h
  have hS : va_S (va_A (B T) s.heap.size) s.heap s.heap [] := va_S.rf
  have hl := lv_entry av (n := maxL) hsl
  rw [lg_entry_eq]
  rw [hlv] at hl
  exact body ((p, l, e, rm, s), (m, av.toArray, below, meth, c), (maxL, D, cI, cZ, cV), (0, 0), (va_A (B T) s.heap.size, MQ below (va_Qi (fun (r1 : Int32) (_ : Unit) => r1 = r ∧ narrow .boolean (.int r) = .int r) (fun _ => PostB D (jtys cI cZ cV) B T T' s.heap.size) (va_A (B T) s.heap.size)) av.toArray s 0 0 (va_A (B T) s.heap.size), B)) rfl rfl rfl rfl rfl rfl rfl ⟨hx, hb, hml, hown, hts, hK, hA, rfl, Nat.zero_le _, Nat.zero_le _⟩
    (fun pc lv hdg hnr ls H locs a1 a2 a3 a4 => W.zret hx hb hr hnr (fun t ht hW => ⟨⟨r, (), rfl, ⟨rfl, hnr⟩, (by rw [ht]; exact a2), va_K.moved hW.alike hK, a3⟩, a4.F ht⟩) a4.2.2 hdg) _ _ _ hl hP hD hS
set_option maxHeartbeats 1000000 in
theorem CTv.of {τ : Type} {l : Launch} {D : va_G} {cI cZ cV : ClassId} {y : MethodName} {bytes : ByteArray} {maxL : Nat} {rm : Room} {B : τ → va_W} {av : List Value} {T T' : τ} (lv0 : List (Nat × Value)) (hlv : lv_args 0 av = lv0) (hsl : (lg_sl av).length ≤ maxL) (hy : plainName y.cls = true) (hrm : rm.cells = 0 ∧ rm.slots = 0) 
    (body : ∀ X : JX τ, X.l = l → X.D = D → X.cI = cI → X.cZ = cZ → X.cV = cV → X.B = B → X.nL = maxL → OK X y.cls bytes rm → EXv X bytes T' → J X 0 lv0 [] T) : CTv l D (jtys cI cZ cV) y bytes maxL (none) rm B av T T' := by
  intro sz
  refine Met.ofW (cc := bytes) (maxL := maxL) (ret := none) hy rfl ?_
  intro p e s m args below meth c s₁ Bd hml hv
  obtain ⟨rfl, hsz, hP, hK, hD0⟩ := hv
  subst hsz
  have hx := Bd.exec
  have hb := Bd.bytes
  have hr := Bd.returns
  have hts0 := atoms_spec (ws := .code y bytes maxL (none) :: lw_w) Bd.pre
  have hts : ∀ w ∈ lw_w, w.before av.toArray s = true := fun w hw => hts0 w (List.mem_cons_of_mem _ hw)
  have hown : s.vm.findClass y.cls = some m.cls := findClass_of_methodNamed Bd.named
  have hlocks := Bd.notSynchronized
  have hD := hD0.self (sz := s.heap.size)
  have hA : ∀ q : Nat, s.heap.size ≤ q → va_A (B T) s.heap.size q := fun q h => Or.inr h
  have hS : va_S (va_A (B T) s.heap.size) s.heap s.heap [] := va_S.rf
  have hl := lv_entry av (n := maxL) hsl
  rw [lg_entry_eq]
  rw [hlv] at hl
  exact body ((p, l, e, rm, s), (m, av.toArray, below, meth, c), (maxL, D, cI, cZ, cV), (0, 0), (va_A (B T) s.heap.size, MQ below (va_Qv (fun (_ : Unit) => True) (fun _ => PostB D (jtys cI cZ cV) B T T' s.heap.size) (va_A (B T) s.heap.size)) av.toArray s 0 0 (va_A (B T) s.heap.size), B)) rfl rfl rfl rfl rfl rfl rfl ⟨hx, hb, hml, hown, hts, hK, hA, rfl, Nat.zero_le _, Nat.zero_le _⟩
    (fun pc lv hdg ls H locs a1 a2 a3 a4 => W.vret hx hb hr (fun t ht hW => ⟨⟨(), rfl, trivial, (by rw [ht]; exact a2), va_K.moved hW.alike hK, a3⟩, a4.F ht⟩) a4.2.2 hdg) _ _ _ hl hP hD hS
end
section
theorem dX0_init_0 : decode cX0_init 0 = .ok (.aload_n 0, 1) := by decide +kernel
theorem dX0_init_1 : decode cX0_init 1 = .ok (.invokespecial 3, 3) := by decide +kernel
theorem dX0_init_4 : decode cX0_init 4 = .ok (.aload_n 0, 1) := by decide +kernel
theorem dX0_init_5 : decode cX0_init 5 = .ok (.iconst 2, 1) := by decide +kernel
theorem dX0_init_6 : decode cX0_init 6 = .ok (.newarray .int, 2) := by decide +kernel
theorem dX0_init_8 : decode cX0_init 8 = .ok (.putfield 9, 3) := by decide +kernel
theorem dX0_init_11 : decode cX0_init 11 = .ok (.aload_n 0, 1) := by decide +kernel
theorem dX0_init_12 : decode cX0_init 12 = .ok (.iconst 2, 1) := by decide +kernel
theorem dX0_init_13 : decode cX0_init 13 = .ok (.newarray .int, 2) := by decide +kernel
theorem dX0_init_15 : decode cX0_init 15 = .ok (.putfield 15, 3) := by decide +kernel
theorem dX0_init_18 : decode cX0_init 18 = .ok (.aload_n 0, 1) := by decide +kernel
theorem dX0_init_19 : decode cX0_init 19 = .ok (.iconst 2, 1) := by decide +kernel
theorem dX0_init_20 : decode cX0_init 20 = .ok (.newarray .int, 2) := by decide +kernel
theorem dX0_init_22 : decode cX0_init 22 = .ok (.putfield 18, 3) := by decide +kernel
theorem dX0_init_25 : decode cX0_init 25 = .ok (.aload_n 0, 1) := by decide +kernel
theorem dX0_init_26 : decode cX0_init 26 = .ok (.iconst 2, 1) := by decide +kernel
theorem dX0_init_27 : decode cX0_init 27 = .ok (.newarray .int, 2) := by decide +kernel
theorem dX0_init_29 : decode cX0_init 29 = .ok (.putfield 21, 3) := by decide +kernel
theorem dX0_init_32 : decode cX0_init 32 = .ok (.iconst 0, 1) := by decide +kernel
theorem dX0_init_33 : decode cX0_init 33 = .ok (.istore_n 1, 1) := by decide +kernel
theorem dX0_init_34 : decode cX0_init 34 = .ok (.iload_n 1, 1) := by decide +kernel
theorem dX0_init_35 : decode cX0_init 35 = .ok (.iconst 2, 1) := by decide +kernel
theorem dX0_init_36 : decode cX0_init 36 = .ok (.if_icmp .ge 25, 3) := by decide +kernel
theorem dX0_init_39 : decode cX0_init 39 = .ok (.aload_n 0, 1) := by decide +kernel
theorem dX0_init_40 : decode cX0_init 40 = .ok (.getfield 15, 3) := by decide +kernel
theorem dX0_init_43 : decode cX0_init 43 = .ok (.iload_n 1, 1) := by decide +kernel
theorem dX0_init_44 : decode cX0_init 44 = .ok (.bipush 20, 2) := by decide +kernel
theorem dX0_init_46 : decode cX0_init 46 = .ok (.iastore, 1) := by decide +kernel
theorem dX0_init_47 : decode cX0_init 47 = .ok (.aload_n 0, 1) := by decide +kernel
theorem dX0_init_48 : decode cX0_init 48 = .ok (.getfield 18, 3) := by decide +kernel
theorem dX0_init_51 : decode cX0_init 51 = .ok (.iload_n 1, 1) := by decide +kernel
theorem dX0_init_52 : decode cX0_init 52 = .ok (.bipush 90, 2) := by decide +kernel
theorem dX0_init_54 : decode cX0_init 54 = .ok (.iastore, 1) := by decide +kernel
theorem dX0_init_55 : decode cX0_init 55 = .ok (.iinc 1 1, 3) := by decide +kernel
theorem dX0_init_58 : decode cX0_init 58 = .ok (.goto (-24), 3) := by decide +kernel
theorem dX0_init_61 : decode cX0_init 61 = .ok (.return_, 1) := by decide +kernel
theorem dX0_copy_0 : decode cX0_copy 0 = .ok (.aload_n 1, 1) := by decide +kernel
theorem dX0_copy_1 : decode cX0_copy 1 = .ok (.getfield 9, 3) := by decide +kernel
theorem dX0_copy_4 : decode cX0_copy 4 = .ok (.iconst 0, 1) := by decide +kernel
theorem dX0_copy_5 : decode cX0_copy 5 = .ok (.aload_n 0, 1) := by decide +kernel
theorem dX0_copy_6 : decode cX0_copy 6 = .ok (.getfield 9, 3) := by decide +kernel
theorem dX0_copy_9 : decode cX0_copy 9 = .ok (.iconst 0, 1) := by decide +kernel
theorem dX0_copy_10 : decode cX0_copy 10 = .ok (.iconst 2, 1) := by decide +kernel
theorem dX0_copy_11 : decode cX0_copy 11 = .ok (.invokestatic 24, 3) := by decide +kernel
theorem dX0_copy_14 : decode cX0_copy 14 = .ok (.aload_n 1, 1) := by decide +kernel
theorem dX0_copy_15 : decode cX0_copy 15 = .ok (.getfield 15, 3) := by decide +kernel
theorem dX0_copy_18 : decode cX0_copy 18 = .ok (.iconst 0, 1) := by decide +kernel
theorem dX0_copy_19 : decode cX0_copy 19 = .ok (.aload_n 0, 1) := by decide +kernel
theorem dX0_copy_20 : decode cX0_copy 20 = .ok (.getfield 15, 3) := by decide +kernel
theorem dX0_copy_23 : decode cX0_copy 23 = .ok (.iconst 0, 1) := by decide +kernel
theorem dX0_copy_24 : decode cX0_copy 24 = .ok (.iconst 2, 1) := by decide +kernel
theorem dX0_copy_25 : decode cX0_copy 25 = .ok (.invokestatic 24, 3) := by decide +kernel
theorem dX0_copy_28 : decode cX0_copy 28 = .ok (.aload_n 1, 1) := by decide +kernel
theorem dX0_copy_29 : decode cX0_copy 29 = .ok (.getfield 18, 3) := by decide +kernel
theorem dX0_copy_32 : decode cX0_copy 32 = .ok (.iconst 0, 1) := by decide +kernel
theorem dX0_copy_33 : decode cX0_copy 33 = .ok (.aload_n 0, 1) := by decide +kernel
theorem dX0_copy_34 : decode cX0_copy 34 = .ok (.getfield 18, 3) := by decide +kernel
theorem dX0_copy_37 : decode cX0_copy 37 = .ok (.iconst 0, 1) := by decide +kernel
theorem dX0_copy_38 : decode cX0_copy 38 = .ok (.iconst 2, 1) := by decide +kernel
theorem dX0_copy_39 : decode cX0_copy 39 = .ok (.invokestatic 24, 3) := by decide +kernel
theorem dX0_copy_42 : decode cX0_copy 42 = .ok (.aload_n 1, 1) := by decide +kernel
theorem dX0_copy_43 : decode cX0_copy 43 = .ok (.getfield 21, 3) := by decide +kernel
theorem dX0_copy_46 : decode cX0_copy 46 = .ok (.iconst 0, 1) := by decide +kernel
theorem dX0_copy_47 : decode cX0_copy 47 = .ok (.aload_n 0, 1) := by decide +kernel
theorem dX0_copy_48 : decode cX0_copy 48 = .ok (.getfield 21, 3) := by decide +kernel
theorem dX0_copy_51 : decode cX0_copy 51 = .ok (.iconst 0, 1) := by decide +kernel
theorem dX0_copy_52 : decode cX0_copy 52 = .ok (.iconst 2, 1) := by decide +kernel
theorem dX0_copy_53 : decode cX0_copy 53 = .ok (.invokestatic 24, 3) := by decide +kernel
theorem dX0_copy_56 : decode cX0_copy 56 = .ok (.return_, 1) := by decide +kernel
theorem dX0_told_0 : decode cX0_told 0 = .ok (.iload_n 2, 1) := by decide +kernel
theorem dX0_told_1 : decode cX0_told 1 = .ok (.tableswitch 59 0 3 #[31, 38, 45, 52], 31) := by decide +kernel
theorem dX0_told_32 : decode cX0_told 32 = .ok (.aload_n 0, 1) := by decide +kernel
theorem dX0_told_33 : decode cX0_told 33 = .ok (.getfield 9, 3) := by decide +kernel
theorem dX0_told_36 : decode cX0_told 36 = .ok (.iload_n 1, 1) := by decide +kernel
theorem dX0_told_37 : decode cX0_told 37 = .ok (.iaload, 1) := by decide +kernel
theorem dX0_told_38 : decode cX0_told 38 = .ok (.ireturn, 1) := by decide +kernel
theorem dX0_told_39 : decode cX0_told 39 = .ok (.aload_n 0, 1) := by decide +kernel
theorem dX0_told_40 : decode cX0_told 40 = .ok (.getfield 15, 3) := by decide +kernel
theorem dX0_told_43 : decode cX0_told 43 = .ok (.iload_n 1, 1) := by decide +kernel
theorem dX0_told_44 : decode cX0_told 44 = .ok (.iaload, 1) := by decide +kernel
theorem dX0_told_45 : decode cX0_told 45 = .ok (.ireturn, 1) := by decide +kernel
theorem dX0_told_46 : decode cX0_told 46 = .ok (.aload_n 0, 1) := by decide +kernel
theorem dX0_told_47 : decode cX0_told 47 = .ok (.getfield 18, 3) := by decide +kernel
theorem dX0_told_50 : decode cX0_told 50 = .ok (.iload_n 1, 1) := by decide +kernel
theorem dX0_told_51 : decode cX0_told 51 = .ok (.iaload, 1) := by decide +kernel
theorem dX0_told_52 : decode cX0_told 52 = .ok (.ireturn, 1) := by decide +kernel
theorem dX0_told_53 : decode cX0_told 53 = .ok (.aload_n 0, 1) := by decide +kernel
theorem dX0_told_54 : decode cX0_told 54 = .ok (.getfield 21, 3) := by decide +kernel
theorem dX0_told_57 : decode cX0_told 57 = .ok (.iload_n 1, 1) := by decide +kernel
theorem dX0_told_58 : decode cX0_told 58 = .ok (.iaload, 1) := by decide +kernel
theorem dX0_told_59 : decode cX0_told 59 = .ok (.ireturn, 1) := by decide +kernel
theorem dX0_told_60 : decode cX0_told 60 = .ok (.aload_n 0, 1) := by decide +kernel
theorem dX0_told_61 : decode cX0_told 61 = .ok (.iload_n 1, 1) := by decide +kernel
theorem dX0_told_62 : decode cX0_told 62 = .ok (.invokevirtual 30, 3) := by decide +kernel
theorem dX0_told_65 : decode cX0_told 65 = .ok (.ireturn, 1) := by decide +kernel
theorem dX0_change_0 : decode cX0_change 0 = .ok (.iload_n 2, 1) := by decide +kernel
theorem dX0_change_1 : decode cX0_change 1 = .ok (.lookupswitch 47 #[(0, 27), (1, 37)], 27) := by decide +kernel
theorem dX0_change_28 : decode cX0_change 28 = .ok (.aload_n 0, 1) := by decide +kernel
theorem dX0_change_29 : decode cX0_change 29 = .ok (.getfield 9, 3) := by decide +kernel
theorem dX0_change_32 : decode cX0_change 32 = .ok (.iload_n 1, 1) := by decide +kernel
theorem dX0_change_33 : decode cX0_change 33 = .ok (.iload_n 3, 1) := by decide +kernel
theorem dX0_change_34 : decode cX0_change 34 = .ok (.iastore, 1) := by decide +kernel
theorem dX0_change_35 : decode cX0_change 35 = .ok (.goto 20, 3) := by decide +kernel
theorem dX0_change_38 : decode cX0_change 38 = .ok (.aload_n 0, 1) := by decide +kernel
theorem dX0_change_39 : decode cX0_change 39 = .ok (.getfield 15, 3) := by decide +kernel
theorem dX0_change_42 : decode cX0_change 42 = .ok (.iload_n 1, 1) := by decide +kernel
theorem dX0_change_43 : decode cX0_change 43 = .ok (.iload_n 3, 1) := by decide +kernel
theorem dX0_change_44 : decode cX0_change 44 = .ok (.iastore, 1) := by decide +kernel
theorem dX0_change_45 : decode cX0_change 45 = .ok (.goto 10, 3) := by decide +kernel
theorem dX0_change_48 : decode cX0_change 48 = .ok (.aload_n 0, 1) := by decide +kernel
theorem dX0_change_49 : decode cX0_change 49 = .ok (.getfield 18, 3) := by decide +kernel
theorem dX0_change_52 : decode cX0_change 52 = .ok (.iload_n 1, 1) := by decide +kernel
theorem dX0_change_53 : decode cX0_change 53 = .ok (.iload_n 3, 1) := by decide +kernel
theorem dX0_change_54 : decode cX0_change 54 = .ok (.iastore, 1) := by decide +kernel
theorem dX0_change_55 : decode cX0_change 55 = .ok (.return_, 1) := by decide +kernel
theorem dX0_discardExcess_0 : decode cX0_discardExcess 0 = .ok (.iconst 0, 1) := by decide +kernel
theorem dX0_discardExcess_1 : decode cX0_discardExcess 1 = .ok (.aload_n 0, 1) := by decide +kernel
theorem dX0_discardExcess_2 : decode cX0_discardExcess 2 = .ok (.getfield 21, 3) := by decide +kernel
theorem dX0_discardExcess_5 : decode cX0_discardExcess 5 = .ok (.iload_n 1, 1) := by decide +kernel
theorem dX0_discardExcess_6 : decode cX0_discardExcess 6 = .ok (.iaload, 1) := by decide +kernel
theorem dX0_discardExcess_7 : decode cX0_discardExcess 7 = .ok (.aload_n 0, 1) := by decide +kernel
theorem dX0_discardExcess_8 : decode cX0_discardExcess 8 = .ok (.getfield 9, 3) := by decide +kernel
theorem dX0_discardExcess_11 : decode cX0_discardExcess 11 = .ok (.iload_n 1, 1) := by decide +kernel
theorem dX0_discardExcess_12 : decode cX0_discardExcess 12 = .ok (.iaload, 1) := by decide +kernel
theorem dX0_discardExcess_13 : decode cX0_discardExcess 13 = .ok (.isub, 1) := by decide +kernel
theorem dX0_discardExcess_14 : decode cX0_discardExcess 14 = .ok (.invokestatic 34, 3) := by decide +kernel
theorem dX0_discardExcess_17 : decode cX0_discardExcess 17 = .ok (.istore_n 2, 1) := by decide +kernel
theorem dX0_discardExcess_18 : decode cX0_discardExcess 18 = .ok (.aload_n 0, 1) := by decide +kernel
theorem dX0_discardExcess_19 : decode cX0_discardExcess 19 = .ok (.getfield 21, 3) := by decide +kernel
theorem dX0_discardExcess_22 : decode cX0_discardExcess 22 = .ok (.iload_n 1, 1) := by decide +kernel
theorem dX0_discardExcess_23 : decode cX0_discardExcess 23 = .ok (.dup2, 1) := by decide +kernel
theorem dX0_discardExcess_24 : decode cX0_discardExcess 24 = .ok (.iaload, 1) := by decide +kernel
theorem dX0_discardExcess_25 : decode cX0_discardExcess 25 = .ok (.iload_n 2, 1) := by decide +kernel
theorem dX0_discardExcess_26 : decode cX0_discardExcess 26 = .ok (.isub, 1) := by decide +kernel
theorem dX0_discardExcess_27 : decode cX0_discardExcess 27 = .ok (.iastore, 1) := by decide +kernel
theorem dX0_discardExcess_28 : decode cX0_discardExcess 28 = .ok (.iload_n 2, 1) := by decide +kernel
theorem dX0_discardExcess_29 : decode cX0_discardExcess 29 = .ok (.ireturn, 1) := by decide +kernel
theorem dX0_chargeOfAll_0 : decode cX0_chargeOfAll 0 = .ok (.aload_n 0, 1) := by decide +kernel
theorem dX0_chargeOfAll_1 : decode cX0_chargeOfAll 1 = .ok (.getfield 21, 3) := by decide +kernel
theorem dX0_chargeOfAll_4 : decode cX0_chargeOfAll 4 = .ok (.iconst 0, 1) := by decide +kernel
theorem dX0_chargeOfAll_5 : decode cX0_chargeOfAll 5 = .ok (.iaload, 1) := by decide +kernel
theorem dX0_chargeOfAll_6 : decode cX0_chargeOfAll 6 = .ok (.aload_n 0, 1) := by decide +kernel
theorem dX0_chargeOfAll_7 : decode cX0_chargeOfAll 7 = .ok (.getfield 21, 3) := by decide +kernel
theorem dX0_chargeOfAll_10 : decode cX0_chargeOfAll 10 = .ok (.iconst 1, 1) := by decide +kernel
theorem dX0_chargeOfAll_11 : decode cX0_chargeOfAll 11 = .ok (.iaload, 1) := by decide +kernel
theorem dX0_chargeOfAll_12 : decode cX0_chargeOfAll 12 = .ok (.iadd, 1) := by decide +kernel
theorem dX0_chargeOfAll_13 : decode cX0_chargeOfAll 13 = .ok (.ireturn, 1) := by decide +kernel
theorem dX0_canGive_0 : decode cX0_canGive 0 = .ok (.aload_n 0, 1) := by decide +kernel
theorem dX0_canGive_1 : decode cX0_canGive 1 = .ok (.getfield 21, 3) := by decide +kernel
theorem dX0_canGive_4 : decode cX0_canGive 4 = .ok (.iload_n 1, 1) := by decide +kernel
theorem dX0_canGive_5 : decode cX0_canGive 5 = .ok (.iaload, 1) := by decide +kernel
theorem dX0_canGive_6 : decode cX0_canGive 6 = .ok (.aload_n 0, 1) := by decide +kernel
theorem dX0_canGive_7 : decode cX0_canGive 7 = .ok (.getfield 15, 3) := by decide +kernel
theorem dX0_canGive_10 : decode cX0_canGive 10 = .ok (.iload_n 1, 1) := by decide +kernel
theorem dX0_canGive_11 : decode cX0_canGive 11 = .ok (.iaload, 1) := by decide +kernel
theorem dX0_canGive_12 : decode cX0_canGive 12 = .ok (.invokestatic 40, 3) := by decide +kernel
theorem dX0_canGive_15 : decode cX0_canGive 15 = .ok (.ireturn, 1) := by decide +kernel
theorem dX0_canGiveAll_0 : decode cX0_canGiveAll 0 = .ok (.aload_n 0, 1) := by decide +kernel
theorem dX0_canGiveAll_1 : decode cX0_canGiveAll 1 = .ok (.iconst 0, 1) := by decide +kernel
theorem dX0_canGiveAll_2 : decode cX0_canGiveAll 2 = .ok (.invokevirtual 30, 3) := by decide +kernel
theorem dX0_canGiveAll_5 : decode cX0_canGiveAll 5 = .ok (.aload_n 0, 1) := by decide +kernel
theorem dX0_canGiveAll_6 : decode cX0_canGiveAll 6 = .ok (.iconst 1, 1) := by decide +kernel
theorem dX0_canGiveAll_7 : decode cX0_canGiveAll 7 = .ok (.invokevirtual 30, 3) := by decide +kernel
theorem dX0_canGiveAll_10 : decode cX0_canGiveAll 10 = .ok (.iadd, 1) := by decide +kernel
theorem dX0_canGiveAll_11 : decode cX0_canGiveAll 11 = .ok (.ireturn, 1) := by decide +kernel
theorem dX0_give_0 : decode cX0_give 0 = .ok (.iload_n 1, 1) := by decide +kernel
theorem dX0_give_1 : decode cX0_give 1 = .ok (.istore_n 2, 1) := by decide +kernel
theorem dX0_give_2 : decode cX0_give 2 = .ok (.iconst 0, 1) := by decide +kernel
theorem dX0_give_3 : decode cX0_give 3 = .ok (.istore_n 3, 1) := by decide +kernel
theorem dX0_give_4 : decode cX0_give 4 = .ok (.iload_n 3, 1) := by decide +kernel
theorem dX0_give_5 : decode cX0_give 5 = .ok (.iconst 2, 1) := by decide +kernel
theorem dX0_give_6 : decode cX0_give 6 = .ok (.if_icmp .ge 36, 3) := by decide +kernel
theorem dX0_give_9 : decode cX0_give 9 = .ok (.iload_n 2, 1) := by decide +kernel
theorem dX0_give_10 : decode cX0_give 10 = .ok (.aload_n 0, 1) := by decide +kernel
theorem dX0_give_11 : decode cX0_give 11 = .ok (.iload_n 3, 1) := by decide +kernel
theorem dX0_give_12 : decode cX0_give 12 = .ok (.invokevirtual 30, 3) := by decide +kernel
theorem dX0_give_15 : decode cX0_give 15 = .ok (.invokestatic 40, 3) := by decide +kernel
theorem dX0_give_18 : decode cX0_give 18 = .ok (.istore 4, 2) := by decide +kernel
theorem dX0_give_20 : decode cX0_give 20 = .ok (.aload_n 0, 1) := by decide +kernel
theorem dX0_give_21 : decode cX0_give 21 = .ok (.getfield 21, 3) := by decide +kernel
theorem dX0_give_24 : decode cX0_give 24 = .ok (.iload_n 3, 1) := by decide +kernel
theorem dX0_give_25 : decode cX0_give 25 = .ok (.dup2, 1) := by decide +kernel
theorem dX0_give_26 : decode cX0_give 26 = .ok (.iaload, 1) := by decide +kernel
theorem dX0_give_27 : decode cX0_give 27 = .ok (.iload 4, 2) := by decide +kernel
theorem dX0_give_29 : decode cX0_give 29 = .ok (.isub, 1) := by decide +kernel
theorem dX0_give_30 : decode cX0_give 30 = .ok (.iastore, 1) := by decide +kernel
theorem dX0_give_31 : decode cX0_give 31 = .ok (.iload_n 2, 1) := by decide +kernel
theorem dX0_give_32 : decode cX0_give 32 = .ok (.iload 4, 2) := by decide +kernel
theorem dX0_give_34 : decode cX0_give 34 = .ok (.isub, 1) := by decide +kernel
theorem dX0_give_35 : decode cX0_give 35 = .ok (.istore_n 2, 1) := by decide +kernel
theorem dX0_give_36 : decode cX0_give 36 = .ok (.iinc 3 1, 3) := by decide +kernel
theorem dX0_give_39 : decode cX0_give 39 = .ok (.goto (-35), 3) := by decide +kernel
theorem dX0_give_42 : decode cX0_give 42 = .ok (.return_, 1) := by decide +kernel
theorem dX0_canTake_0 : decode cX0_canTake 0 = .ok (.aload_n 0, 1) := by decide +kernel
theorem dX0_canTake_1 : decode cX0_canTake 1 = .ok (.getfield 18, 3) := by decide +kernel
theorem dX0_canTake_4 : decode cX0_canTake 4 = .ok (.iload_n 1, 1) := by decide +kernel
theorem dX0_canTake_5 : decode cX0_canTake 5 = .ok (.iaload, 1) := by decide +kernel
theorem dX0_canTake_6 : decode cX0_canTake 6 = .ok (.istore_n 3, 1) := by decide +kernel
theorem dX0_canTake_7 : decode cX0_canTake 7 = .ok (.aload_n 0, 1) := by decide +kernel
theorem dX0_canTake_8 : decode cX0_canTake 8 = .ok (.getfield 9, 3) := by decide +kernel
theorem dX0_canTake_11 : decode cX0_canTake 11 = .ok (.iload_n 1, 1) := by decide +kernel
theorem dX0_canTake_12 : decode cX0_canTake 12 = .ok (.iaload, 1) := by decide +kernel
theorem dX0_canTake_13 : decode cX0_canTake 13 = .ok (.aload_n 0, 1) := by decide +kernel
theorem dX0_canTake_14 : decode cX0_canTake 14 = .ok (.getfield 21, 3) := by decide +kernel
theorem dX0_canTake_17 : decode cX0_canTake 17 = .ok (.iload_n 1, 1) := by decide +kernel
theorem dX0_canTake_18 : decode cX0_canTake 18 = .ok (.iaload, 1) := by decide +kernel
theorem dX0_canTake_19 : decode cX0_canTake 19 = .ok (.isub, 1) := by decide +kernel
theorem dX0_canTake_20 : decode cX0_canTake 20 = .ok (.istore 4, 2) := by decide +kernel
theorem dX0_canTake_22 : decode cX0_canTake 22 = .ok (.iload_n 3, 1) := by decide +kernel
theorem dX0_canTake_23 : decode cX0_canTake 23 = .ok (.ifCond .le 16, 3) := by decide +kernel
theorem dX0_canTake_26 : decode cX0_canTake 26 = .ok (.iload 4, 2) := by decide +kernel
theorem dX0_canTake_28 : decode cX0_canTake 28 = .ok (.bipush 100, 2) := by decide +kernel
theorem dX0_canTake_30 : decode cX0_canTake 30 = .ok (.imul, 1) := by decide +kernel
theorem dX0_canTake_31 : decode cX0_canTake 31 = .ok (.bipush 99, 2) := by decide +kernel
theorem dX0_canTake_33 : decode cX0_canTake 33 = .ok (.iadd, 1) := by decide +kernel
theorem dX0_canTake_34 : decode cX0_canTake 34 = .ok (.iload_n 3, 1) := by decide +kernel
theorem dX0_canTake_35 : decode cX0_canTake 35 = .ok (.idiv, 1) := by decide +kernel
theorem dX0_canTake_36 : decode cX0_canTake 36 = .ok (.goto 4, 3) := by decide +kernel
theorem dX0_canTake_39 : decode cX0_canTake 39 = .ok (.iconst 0, 1) := by decide +kernel
theorem dX0_canTake_40 : decode cX0_canTake 40 = .ok (.istore 5, 2) := by decide +kernel
theorem dX0_canTake_42 : decode cX0_canTake 42 = .ok (.iload 5, 2) := by decide +kernel
theorem dX0_canTake_44 : decode cX0_canTake 44 = .ok (.aload_n 0, 1) := by decide +kernel
theorem dX0_canTake_45 : decode cX0_canTake 45 = .ok (.getfield 15, 3) := by decide +kernel
theorem dX0_canTake_48 : decode cX0_canTake 48 = .ok (.iload_n 1, 1) := by decide +kernel
theorem dX0_canTake_49 : decode cX0_canTake 49 = .ok (.iaload, 1) := by decide +kernel
theorem dX0_canTake_50 : decode cX0_canTake 50 = .ok (.iload_n 2, 1) := by decide +kernel
theorem dX0_canTake_51 : decode cX0_canTake 51 = .ok (.invokestatic 40, 3) := by decide +kernel
theorem dX0_canTake_54 : decode cX0_canTake 54 = .ok (.invokestatic 40, 3) := by decide +kernel
theorem dX0_canTake_57 : decode cX0_canTake 57 = .ok (.ireturn, 1) := by decide +kernel
theorem dX0_takeIn_0 : decode cX0_takeIn 0 = .ok (.iload_n 2, 1) := by decide +kernel
theorem dX0_takeIn_1 : decode cX0_takeIn 1 = .ok (.aload_n 0, 1) := by decide +kernel
theorem dX0_takeIn_2 : decode cX0_takeIn 2 = .ok (.getfield 18, 3) := by decide +kernel
theorem dX0_takeIn_5 : decode cX0_takeIn 5 = .ok (.iload_n 1, 1) := by decide +kernel
theorem dX0_takeIn_6 : decode cX0_takeIn 6 = .ok (.iaload, 1) := by decide +kernel
theorem dX0_takeIn_7 : decode cX0_takeIn 7 = .ok (.imul, 1) := by decide +kernel
theorem dX0_takeIn_8 : decode cX0_takeIn 8 = .ok (.bipush 100, 2) := by decide +kernel
theorem dX0_takeIn_10 : decode cX0_takeIn 10 = .ok (.idiv, 1) := by decide +kernel
theorem dX0_takeIn_11 : decode cX0_takeIn 11 = .ok (.istore_n 3, 1) := by decide +kernel
theorem dX0_takeIn_12 : decode cX0_takeIn 12 = .ok (.aload_n 0, 1) := by decide +kernel
theorem dX0_takeIn_13 : decode cX0_takeIn 13 = .ok (.getfield 21, 3) := by decide +kernel
theorem dX0_takeIn_16 : decode cX0_takeIn 16 = .ok (.iload_n 1, 1) := by decide +kernel
theorem dX0_takeIn_17 : decode cX0_takeIn 17 = .ok (.dup2, 1) := by decide +kernel
theorem dX0_takeIn_18 : decode cX0_takeIn 18 = .ok (.iaload, 1) := by decide +kernel
theorem dX0_takeIn_19 : decode cX0_takeIn 19 = .ok (.iload_n 3, 1) := by decide +kernel
theorem dX0_takeIn_20 : decode cX0_takeIn 20 = .ok (.iadd, 1) := by decide +kernel
theorem dX0_takeIn_21 : decode cX0_takeIn 21 = .ok (.iastore, 1) := by decide +kernel
theorem dX0_takeIn_22 : decode cX0_takeIn 22 = .ok (.iload_n 3, 1) := by decide +kernel
theorem dX0_takeIn_23 : decode cX0_takeIn 23 = .ok (.ireturn, 1) := by decide +kernel
theorem dX1_init_0 : decode cX1_init 0 = .ok (.aload_n 0, 1) := by decide +kernel
theorem dX1_init_1 : decode cX1_init 1 = .ok (.invokespecial 3, 3) := by decide +kernel
theorem dX1_init_4 : decode cX1_init 4 = .ok (.aload_n 0, 1) := by decide +kernel
theorem dX1_init_5 : decode cX1_init 5 = .ok (.bipush 8, 2) := by decide +kernel
theorem dX1_init_7 : decode cX1_init 7 = .ok (.anewarray 9, 3) := by decide +kernel
theorem dX1_init_10 : decode cX1_init 10 = .ok (.putfield 11, 3) := by decide +kernel
theorem dX1_init_13 : decode cX1_init 13 = .ok (.iconst 0, 1) := by decide +kernel
theorem dX1_init_14 : decode cX1_init 14 = .ok (.istore_n 1, 1) := by decide +kernel
theorem dX1_init_15 : decode cX1_init 15 = .ok (.iload_n 1, 1) := by decide +kernel
theorem dX1_init_16 : decode cX1_init 16 = .ok (.bipush 8, 2) := by decide +kernel
theorem dX1_init_18 : decode cX1_init 18 = .ok (.if_icmp .ge 22, 3) := by decide +kernel
theorem dX1_init_21 : decode cX1_init 21 = .ok (.aload_n 0, 1) := by decide +kernel
theorem dX1_init_22 : decode cX1_init 22 = .ok (.getfield 11, 3) := by decide +kernel
theorem dX1_init_25 : decode cX1_init 25 = .ok (.iload_n 1, 1) := by decide +kernel
theorem dX1_init_26 : decode cX1_init 26 = .ok (.new 9, 3) := by decide +kernel
theorem dX1_init_29 : decode cX1_init 29 = .ok (.dup, 1) := by decide +kernel
theorem dX1_init_30 : decode cX1_init 30 = .ok (.invokespecial 17, 3) := by decide +kernel
theorem dX1_init_33 : decode cX1_init 33 = .ok (.aastore, 1) := by decide +kernel
theorem dX1_init_34 : decode cX1_init 34 = .ok (.iinc 1 1, 3) := by decide +kernel
theorem dX1_init_37 : decode cX1_init 37 = .ok (.goto (-22), 3) := by decide +kernel
theorem dX1_init_40 : decode cX1_init 40 = .ok (.return_, 1) := by decide +kernel
theorem dX1_record_0 : decode cX1_record 0 = .ok (.aload_n 0, 1) := by decide +kernel
theorem dX1_record_1 : decode cX1_record 1 = .ok (.getfield 18, 3) := by decide +kernel
theorem dX1_record_4 : decode cX1_record 4 = .ok (.bipush 8, 2) := by decide +kernel
theorem dX1_record_6 : decode cX1_record 6 = .ok (.if_icmp .lt 7, 3) := by decide +kernel
theorem dX1_record_9 : decode cX1_record 9 = .ok (.aload_n 0, 1) := by decide +kernel
theorem dX1_record_10 : decode cX1_record 10 = .ok (.invokevirtual 22, 3) := by decide +kernel
theorem dX1_record_13 : decode cX1_record 13 = .ok (.aload_n 0, 1) := by decide +kernel
theorem dX1_record_14 : decode cX1_record 14 = .ok (.getfield 11, 3) := by decide +kernel
theorem dX1_record_17 : decode cX1_record 17 = .ok (.aload_n 0, 1) := by decide +kernel
theorem dX1_record_18 : decode cX1_record 18 = .ok (.getfield 18, 3) := by decide +kernel
theorem dX1_record_21 : decode cX1_record 21 = .ok (.aaload, 1) := by decide +kernel
theorem dX1_record_22 : decode cX1_record 22 = .ok (.aload_n 1, 1) := by decide +kernel
theorem dX1_record_23 : decode cX1_record 23 = .ok (.invokevirtual 25, 3) := by decide +kernel
theorem dX1_record_26 : decode cX1_record 26 = .ok (.aload_n 0, 1) := by decide +kernel
theorem dX1_record_27 : decode cX1_record 27 = .ok (.dup, 1) := by decide +kernel
theorem dX1_record_28 : decode cX1_record 28 = .ok (.getfield 18, 3) := by decide +kernel
theorem dX1_record_31 : decode cX1_record 31 = .ok (.iconst 1, 1) := by decide +kernel
theorem dX1_record_32 : decode cX1_record 32 = .ok (.iadd, 1) := by decide +kernel
theorem dX1_record_33 : decode cX1_record 33 = .ok (.putfield 18, 3) := by decide +kernel
theorem dX1_record_36 : decode cX1_record 36 = .ok (.return_, 1) := by decide +kernel
theorem dX1_dropOldest_0 : decode cX1_dropOldest 0 = .ok (.aload_n 0, 1) := by decide +kernel
theorem dX1_dropOldest_1 : decode cX1_dropOldest 1 = .ok (.getfield 11, 3) := by decide +kernel
theorem dX1_dropOldest_4 : decode cX1_dropOldest 4 = .ok (.iconst 0, 1) := by decide +kernel
theorem dX1_dropOldest_5 : decode cX1_dropOldest 5 = .ok (.aaload, 1) := by decide +kernel
theorem dX1_dropOldest_6 : decode cX1_dropOldest 6 = .ok (.astore_n 1, 1) := by decide +kernel
theorem dX1_dropOldest_7 : decode cX1_dropOldest 7 = .ok (.iconst 0, 1) := by decide +kernel
theorem dX1_dropOldest_8 : decode cX1_dropOldest 8 = .ok (.istore_n 2, 1) := by decide +kernel
theorem dX1_dropOldest_9 : decode cX1_dropOldest 9 = .ok (.iload_n 2, 1) := by decide +kernel
theorem dX1_dropOldest_10 : decode cX1_dropOldest 10 = .ok (.bipush 7, 2) := by decide +kernel
theorem dX1_dropOldest_12 : decode cX1_dropOldest 12 = .ok (.if_icmp .ge 23, 3) := by decide +kernel
theorem dX1_dropOldest_15 : decode cX1_dropOldest 15 = .ok (.aload_n 0, 1) := by decide +kernel
theorem dX1_dropOldest_16 : decode cX1_dropOldest 16 = .ok (.getfield 11, 3) := by decide +kernel
theorem dX1_dropOldest_19 : decode cX1_dropOldest 19 = .ok (.iload_n 2, 1) := by decide +kernel
theorem dX1_dropOldest_20 : decode cX1_dropOldest 20 = .ok (.aload_n 0, 1) := by decide +kernel
theorem dX1_dropOldest_21 : decode cX1_dropOldest 21 = .ok (.getfield 11, 3) := by decide +kernel
theorem dX1_dropOldest_24 : decode cX1_dropOldest 24 = .ok (.iload_n 2, 1) := by decide +kernel
theorem dX1_dropOldest_25 : decode cX1_dropOldest 25 = .ok (.iconst 1, 1) := by decide +kernel
theorem dX1_dropOldest_26 : decode cX1_dropOldest 26 = .ok (.iadd, 1) := by decide +kernel
theorem dX1_dropOldest_27 : decode cX1_dropOldest 27 = .ok (.aaload, 1) := by decide +kernel
theorem dX1_dropOldest_28 : decode cX1_dropOldest 28 = .ok (.aastore, 1) := by decide +kernel
theorem dX1_dropOldest_29 : decode cX1_dropOldest 29 = .ok (.iinc 2 1, 3) := by decide +kernel
theorem dX1_dropOldest_32 : decode cX1_dropOldest 32 = .ok (.goto (-23), 3) := by decide +kernel
theorem dX1_dropOldest_35 : decode cX1_dropOldest 35 = .ok (.aload_n 0, 1) := by decide +kernel
theorem dX1_dropOldest_36 : decode cX1_dropOldest 36 = .ok (.getfield 11, 3) := by decide +kernel
theorem dX1_dropOldest_39 : decode cX1_dropOldest 39 = .ok (.bipush 7, 2) := by decide +kernel
theorem dX1_dropOldest_41 : decode cX1_dropOldest 41 = .ok (.aload_n 1, 1) := by decide +kernel
theorem dX1_dropOldest_42 : decode cX1_dropOldest 42 = .ok (.aastore, 1) := by decide +kernel
theorem dX1_dropOldest_43 : decode cX1_dropOldest 43 = .ok (.aload_n 0, 1) := by decide +kernel
theorem dX1_dropOldest_44 : decode cX1_dropOldest 44 = .ok (.dup, 1) := by decide +kernel
theorem dX1_dropOldest_45 : decode cX1_dropOldest 45 = .ok (.getfield 18, 3) := by decide +kernel
theorem dX1_dropOldest_48 : decode cX1_dropOldest 48 = .ok (.iconst 1, 1) := by decide +kernel
theorem dX1_dropOldest_49 : decode cX1_dropOldest 49 = .ok (.isub, 1) := by decide +kernel
theorem dX1_dropOldest_50 : decode cX1_dropOldest 50 = .ok (.putfield 18, 3) := by decide +kernel
theorem dX1_dropOldest_53 : decode cX1_dropOldest 53 = .ok (.return_, 1) := by decide +kernel
theorem dX2_init_0 : decode cX2_init 0 = .ok (.aload_n 0, 1) := by decide +kernel
theorem dX2_init_1 : decode cX2_init 1 = .ok (.invokespecial 3, 3) := by decide +kernel
theorem dX2_init_4 : decode cX2_init 4 = .ok (.aload_n 0, 1) := by decide +kernel
theorem dX2_init_5 : decode cX2_init 5 = .ok (.bipush 10, 2) := by decide +kernel
theorem dX2_init_7 : decode cX2_init 7 = .ok (.newarray .int, 2) := by decide +kernel
theorem dX2_init_9 : decode cX2_init 9 = .ok (.putfield 9, 3) := by decide +kernel
theorem dX2_init_12 : decode cX2_init 12 = .ok (.aload_n 0, 1) := by decide +kernel
theorem dX2_init_13 : decode cX2_init 13 = .ok (.bipush 10, 2) := by decide +kernel
theorem dX2_init_15 : decode cX2_init 15 = .ok (.newarray .int, 2) := by decide +kernel
theorem dX2_init_17 : decode cX2_init 17 = .ok (.putfield 15, 3) := by decide +kernel
theorem dX2_init_20 : decode cX2_init 20 = .ok (.aload_n 0, 1) := by decide +kernel
theorem dX2_init_21 : decode cX2_init 21 = .ok (.bipush 10, 2) := by decide +kernel
theorem dX2_init_23 : decode cX2_init 23 = .ok (.newarray .int, 2) := by decide +kernel
theorem dX2_init_25 : decode cX2_init 25 = .ok (.putfield 18, 3) := by decide +kernel
theorem dX2_init_28 : decode cX2_init 28 = .ok (.aload_n 0, 1) := by decide +kernel
theorem dX2_init_29 : decode cX2_init 29 = .ok (.bipush 10, 2) := by decide +kernel
theorem dX2_init_31 : decode cX2_init 31 = .ok (.newarray .int, 2) := by decide +kernel
theorem dX2_init_33 : decode cX2_init 33 = .ok (.putfield 21, 3) := by decide +kernel
theorem dX2_init_36 : decode cX2_init 36 = .ok (.aload_n 0, 1) := by decide +kernel
theorem dX2_init_37 : decode cX2_init 37 = .ok (.bipush 10, 2) := by decide +kernel
theorem dX2_init_39 : decode cX2_init 39 = .ok (.newarray .int, 2) := by decide +kernel
theorem dX2_init_41 : decode cX2_init 41 = .ok (.putfield 24, 3) := by decide +kernel
theorem dX2_init_44 : decode cX2_init 44 = .ok (.aload_n 0, 1) := by decide +kernel
theorem dX2_init_45 : decode cX2_init 45 = .ok (.bipush 10, 2) := by decide +kernel
theorem dX2_init_47 : decode cX2_init 47 = .ok (.newarray .int, 2) := by decide +kernel
theorem dX2_init_49 : decode cX2_init 49 = .ok (.putfield 27, 3) := by decide +kernel
theorem dX2_init_52 : decode cX2_init 52 = .ok (.aload_n 0, 1) := by decide +kernel
theorem dX2_init_53 : decode cX2_init 53 = .ok (.bipush 10, 2) := by decide +kernel
theorem dX2_init_55 : decode cX2_init 55 = .ok (.newarray .int, 2) := by decide +kernel
theorem dX2_init_57 : decode cX2_init 57 = .ok (.putfield 30, 3) := by decide +kernel
theorem dX2_init_60 : decode cX2_init 60 = .ok (.aload_n 0, 1) := by decide +kernel
theorem dX2_init_61 : decode cX2_init 61 = .ok (.bipush 10, 2) := by decide +kernel
theorem dX2_init_63 : decode cX2_init 63 = .ok (.newarray .int, 2) := by decide +kernel
theorem dX2_init_65 : decode cX2_init 65 = .ok (.putfield 33, 3) := by decide +kernel
theorem dX2_init_68 : decode cX2_init 68 = .ok (.aload_n 0, 1) := by decide +kernel
theorem dX2_init_69 : decode cX2_init 69 = .ok (.bipush 10, 2) := by decide +kernel
theorem dX2_init_71 : decode cX2_init 71 = .ok (.newarray .int, 2) := by decide +kernel
theorem dX2_init_73 : decode cX2_init 73 = .ok (.putfield 36, 3) := by decide +kernel
theorem dX2_init_76 : decode cX2_init 76 = .ok (.aload_n 0, 1) := by decide +kernel
theorem dX2_init_77 : decode cX2_init 77 = .ok (.bipush 10, 2) := by decide +kernel
theorem dX2_init_79 : decode cX2_init 79 = .ok (.newarray .int, 2) := by decide +kernel
theorem dX2_init_81 : decode cX2_init 81 = .ok (.putfield 39, 3) := by decide +kernel
theorem dX2_init_84 : decode cX2_init 84 = .ok (.return_, 1) := by decide +kernel
theorem dX2_add_0 : decode cX2_add 0 = .ok (.aload_n 0, 1) := by decide +kernel
theorem dX2_add_1 : decode cX2_add 1 = .ok (.getfield 42, 3) := by decide +kernel
theorem dX2_add_4 : decode cX2_add 4 = .ok (.istore_n 3, 1) := by decide +kernel
theorem dX2_add_5 : decode cX2_add 5 = .ok (.aload_n 0, 1) := by decide +kernel
theorem dX2_add_6 : decode cX2_add 6 = .ok (.getfield 9, 3) := by decide +kernel
theorem dX2_add_9 : decode cX2_add 9 = .ok (.iload_n 3, 1) := by decide +kernel
theorem dX2_add_10 : decode cX2_add 10 = .ok (.iload_n 1, 1) := by decide +kernel
theorem dX2_add_11 : decode cX2_add 11 = .ok (.iastore, 1) := by decide +kernel
theorem dX2_add_12 : decode cX2_add 12 = .ok (.aload_n 0, 1) := by decide +kernel
theorem dX2_add_13 : decode cX2_add 13 = .ok (.getfield 15, 3) := by decide +kernel
theorem dX2_add_16 : decode cX2_add 16 = .ok (.iload_n 3, 1) := by decide +kernel
theorem dX2_add_17 : decode cX2_add 17 = .ok (.iload_n 2, 1) := by decide +kernel
theorem dX2_add_18 : decode cX2_add 18 = .ok (.iastore, 1) := by decide +kernel
theorem dX2_add_19 : decode cX2_add 19 = .ok (.aload_n 0, 1) := by decide +kernel
theorem dX2_add_20 : decode cX2_add 20 = .ok (.getfield 18, 3) := by decide +kernel
theorem dX2_add_23 : decode cX2_add 23 = .ok (.iload_n 3, 1) := by decide +kernel
theorem dX2_add_24 : decode cX2_add 24 = .ok (.iconst 0, 1) := by decide +kernel
theorem dX2_add_25 : decode cX2_add 25 = .ok (.iastore, 1) := by decide +kernel
theorem dX2_add_26 : decode cX2_add 26 = .ok (.aload_n 0, 1) := by decide +kernel
theorem dX2_add_27 : decode cX2_add 27 = .ok (.getfield 21, 3) := by decide +kernel
theorem dX2_add_30 : decode cX2_add 30 = .ok (.iload_n 3, 1) := by decide +kernel
theorem dX2_add_31 : decode cX2_add 31 = .ok (.iconst 1, 1) := by decide +kernel
theorem dX2_add_32 : decode cX2_add 32 = .ok (.iastore, 1) := by decide +kernel
theorem dX2_add_33 : decode cX2_add 33 = .ok (.aload_n 0, 1) := by decide +kernel
theorem dX2_add_34 : decode cX2_add 34 = .ok (.getfield 24, 3) := by decide +kernel
theorem dX2_add_37 : decode cX2_add 37 = .ok (.iload_n 3, 1) := by decide +kernel
theorem dX2_add_38 : decode cX2_add 38 = .ok (.iconst 0, 1) := by decide +kernel
theorem dX2_add_39 : decode cX2_add 39 = .ok (.iastore, 1) := by decide +kernel
theorem dX2_add_40 : decode cX2_add 40 = .ok (.aload_n 0, 1) := by decide +kernel
theorem dX2_add_41 : decode cX2_add 41 = .ok (.getfield 27, 3) := by decide +kernel
theorem dX2_add_44 : decode cX2_add 44 = .ok (.iload_n 3, 1) := by decide +kernel
theorem dX2_add_45 : decode cX2_add 45 = .ok (.iconst 0, 1) := by decide +kernel
theorem dX2_add_46 : decode cX2_add 46 = .ok (.iastore, 1) := by decide +kernel
theorem dX2_add_47 : decode cX2_add 47 = .ok (.aload_n 0, 1) := by decide +kernel
theorem dX2_add_48 : decode cX2_add 48 = .ok (.getfield 30, 3) := by decide +kernel
theorem dX2_add_51 : decode cX2_add 51 = .ok (.iload_n 3, 1) := by decide +kernel
theorem dX2_add_52 : decode cX2_add 52 = .ok (.iconst 0, 1) := by decide +kernel
theorem dX2_add_53 : decode cX2_add 53 = .ok (.iastore, 1) := by decide +kernel
theorem dX2_add_54 : decode cX2_add 54 = .ok (.aload_n 0, 1) := by decide +kernel
theorem dX2_add_55 : decode cX2_add 55 = .ok (.getfield 33, 3) := by decide +kernel
theorem dX2_add_58 : decode cX2_add 58 = .ok (.iload_n 3, 1) := by decide +kernel
theorem dX2_add_59 : decode cX2_add 59 = .ok (.iconst 0, 1) := by decide +kernel
theorem dX2_add_60 : decode cX2_add 60 = .ok (.iastore, 1) := by decide +kernel
theorem dX2_add_61 : decode cX2_add 61 = .ok (.aload_n 0, 1) := by decide +kernel
theorem dX2_add_62 : decode cX2_add 62 = .ok (.dup, 1) := by decide +kernel
theorem dX2_add_63 : decode cX2_add 63 = .ok (.getfield 42, 3) := by decide +kernel
theorem dX2_add_66 : decode cX2_add 66 = .ok (.iconst 1, 1) := by decide +kernel
theorem dX2_add_67 : decode cX2_add 67 = .ok (.iadd, 1) := by decide +kernel
theorem dX2_add_68 : decode cX2_add 68 = .ok (.putfield 42, 3) := by decide +kernel
theorem dX2_add_71 : decode cX2_add 71 = .ok (.iload_n 3, 1) := by decide +kernel
theorem dX2_add_72 : decode cX2_add 72 = .ok (.ireturn, 1) := by decide +kernel
theorem dX2_copy_0 : decode cX2_copy 0 = .ok (.aload_n 0, 1) := by decide +kernel
theorem dX2_copy_1 : decode cX2_copy 1 = .ok (.aload_n 1, 1) := by decide +kernel
theorem dX2_copy_2 : decode cX2_copy 2 = .ok (.getfield 42, 3) := by decide +kernel
theorem dX2_copy_5 : decode cX2_copy 5 = .ok (.putfield 42, 3) := by decide +kernel
theorem dX2_copy_8 : decode cX2_copy 8 = .ok (.aload_n 1, 1) := by decide +kernel
theorem dX2_copy_9 : decode cX2_copy 9 = .ok (.getfield 9, 3) := by decide +kernel
theorem dX2_copy_12 : decode cX2_copy 12 = .ok (.iconst 0, 1) := by decide +kernel
theorem dX2_copy_13 : decode cX2_copy 13 = .ok (.aload_n 0, 1) := by decide +kernel
theorem dX2_copy_14 : decode cX2_copy 14 = .ok (.getfield 9, 3) := by decide +kernel
theorem dX2_copy_17 : decode cX2_copy 17 = .ok (.iconst 0, 1) := by decide +kernel
theorem dX2_copy_18 : decode cX2_copy 18 = .ok (.bipush 10, 2) := by decide +kernel
theorem dX2_copy_20 : decode cX2_copy 20 = .ok (.invokestatic 46, 3) := by decide +kernel
theorem dX2_copy_23 : decode cX2_copy 23 = .ok (.aload_n 1, 1) := by decide +kernel
theorem dX2_copy_24 : decode cX2_copy 24 = .ok (.getfield 15, 3) := by decide +kernel
theorem dX2_copy_27 : decode cX2_copy 27 = .ok (.iconst 0, 1) := by decide +kernel
theorem dX2_copy_28 : decode cX2_copy 28 = .ok (.aload_n 0, 1) := by decide +kernel
theorem dX2_copy_29 : decode cX2_copy 29 = .ok (.getfield 15, 3) := by decide +kernel
theorem dX2_copy_32 : decode cX2_copy 32 = .ok (.iconst 0, 1) := by decide +kernel
theorem dX2_copy_33 : decode cX2_copy 33 = .ok (.bipush 10, 2) := by decide +kernel
theorem dX2_copy_35 : decode cX2_copy 35 = .ok (.invokestatic 46, 3) := by decide +kernel
theorem dX2_copy_38 : decode cX2_copy 38 = .ok (.aload_n 1, 1) := by decide +kernel
theorem dX2_copy_39 : decode cX2_copy 39 = .ok (.getfield 18, 3) := by decide +kernel
theorem dX2_copy_42 : decode cX2_copy 42 = .ok (.iconst 0, 1) := by decide +kernel
theorem dX2_copy_43 : decode cX2_copy 43 = .ok (.aload_n 0, 1) := by decide +kernel
theorem dX2_copy_44 : decode cX2_copy 44 = .ok (.getfield 18, 3) := by decide +kernel
theorem dX2_copy_47 : decode cX2_copy 47 = .ok (.iconst 0, 1) := by decide +kernel
theorem dX2_copy_48 : decode cX2_copy 48 = .ok (.bipush 10, 2) := by decide +kernel
theorem dX2_copy_50 : decode cX2_copy 50 = .ok (.invokestatic 46, 3) := by decide +kernel
theorem dX2_copy_53 : decode cX2_copy 53 = .ok (.aload_n 1, 1) := by decide +kernel
theorem dX2_copy_54 : decode cX2_copy 54 = .ok (.getfield 21, 3) := by decide +kernel
theorem dX2_copy_57 : decode cX2_copy 57 = .ok (.iconst 0, 1) := by decide +kernel
theorem dX2_copy_58 : decode cX2_copy 58 = .ok (.aload_n 0, 1) := by decide +kernel
theorem dX2_copy_59 : decode cX2_copy 59 = .ok (.getfield 21, 3) := by decide +kernel
theorem dX2_copy_62 : decode cX2_copy 62 = .ok (.iconst 0, 1) := by decide +kernel
theorem dX2_copy_63 : decode cX2_copy 63 = .ok (.bipush 10, 2) := by decide +kernel
theorem dX2_copy_65 : decode cX2_copy 65 = .ok (.invokestatic 46, 3) := by decide +kernel
theorem dX2_copy_68 : decode cX2_copy 68 = .ok (.aload_n 1, 1) := by decide +kernel
theorem dX2_copy_69 : decode cX2_copy 69 = .ok (.getfield 24, 3) := by decide +kernel
theorem dX2_copy_72 : decode cX2_copy 72 = .ok (.iconst 0, 1) := by decide +kernel
theorem dX2_copy_73 : decode cX2_copy 73 = .ok (.aload_n 0, 1) := by decide +kernel
theorem dX2_copy_74 : decode cX2_copy 74 = .ok (.getfield 24, 3) := by decide +kernel
theorem dX2_copy_77 : decode cX2_copy 77 = .ok (.iconst 0, 1) := by decide +kernel
theorem dX2_copy_78 : decode cX2_copy 78 = .ok (.bipush 10, 2) := by decide +kernel
theorem dX2_copy_80 : decode cX2_copy 80 = .ok (.invokestatic 46, 3) := by decide +kernel
theorem dX2_copy_83 : decode cX2_copy 83 = .ok (.aload_n 1, 1) := by decide +kernel
theorem dX2_copy_84 : decode cX2_copy 84 = .ok (.getfield 27, 3) := by decide +kernel
theorem dX2_copy_87 : decode cX2_copy 87 = .ok (.iconst 0, 1) := by decide +kernel
theorem dX2_copy_88 : decode cX2_copy 88 = .ok (.aload_n 0, 1) := by decide +kernel
theorem dX2_copy_89 : decode cX2_copy 89 = .ok (.getfield 27, 3) := by decide +kernel
theorem dX2_copy_92 : decode cX2_copy 92 = .ok (.iconst 0, 1) := by decide +kernel
theorem dX2_copy_93 : decode cX2_copy 93 = .ok (.bipush 10, 2) := by decide +kernel
theorem dX2_copy_95 : decode cX2_copy 95 = .ok (.invokestatic 46, 3) := by decide +kernel
theorem dX2_copy_98 : decode cX2_copy 98 = .ok (.aload_n 1, 1) := by decide +kernel
theorem dX2_copy_99 : decode cX2_copy 99 = .ok (.getfield 30, 3) := by decide +kernel
theorem dX2_copy_102 : decode cX2_copy 102 = .ok (.iconst 0, 1) := by decide +kernel
theorem dX2_copy_103 : decode cX2_copy 103 = .ok (.aload_n 0, 1) := by decide +kernel
theorem dX2_copy_104 : decode cX2_copy 104 = .ok (.getfield 30, 3) := by decide +kernel
theorem dX2_copy_107 : decode cX2_copy 107 = .ok (.iconst 0, 1) := by decide +kernel
theorem dX2_copy_108 : decode cX2_copy 108 = .ok (.bipush 10, 2) := by decide +kernel
theorem dX2_copy_110 : decode cX2_copy 110 = .ok (.invokestatic 46, 3) := by decide +kernel
theorem dX2_copy_113 : decode cX2_copy 113 = .ok (.aload_n 1, 1) := by decide +kernel
theorem dX2_copy_114 : decode cX2_copy 114 = .ok (.getfield 33, 3) := by decide +kernel
theorem dX2_copy_117 : decode cX2_copy 117 = .ok (.iconst 0, 1) := by decide +kernel
theorem dX2_copy_118 : decode cX2_copy 118 = .ok (.aload_n 0, 1) := by decide +kernel
theorem dX2_copy_119 : decode cX2_copy 119 = .ok (.getfield 33, 3) := by decide +kernel
theorem dX2_copy_122 : decode cX2_copy 122 = .ok (.iconst 0, 1) := by decide +kernel
theorem dX2_copy_123 : decode cX2_copy 123 = .ok (.bipush 10, 2) := by decide +kernel
theorem dX2_copy_125 : decode cX2_copy 125 = .ok (.invokestatic 46, 3) := by decide +kernel
theorem dX2_copy_128 : decode cX2_copy 128 = .ok (.return_, 1) := by decide +kernel
theorem dX2_told_0 : decode cX2_told 0 = .ok (.iload_n 2, 1) := by decide +kernel
theorem dX2_told_1 : decode cX2_told 1 = .ok (.tableswitch 96 0 7 #[47, 54, 61, 68, 75, 96, 82, 89], 47) := by decide +kernel
theorem dX2_told_48 : decode cX2_told 48 = .ok (.aload_n 0, 1) := by decide +kernel
theorem dX2_told_49 : decode cX2_told 49 = .ok (.getfield 9, 3) := by decide +kernel
theorem dX2_told_52 : decode cX2_told 52 = .ok (.iload_n 1, 1) := by decide +kernel
theorem dX2_told_53 : decode cX2_told 53 = .ok (.iaload, 1) := by decide +kernel
theorem dX2_told_54 : decode cX2_told 54 = .ok (.ireturn, 1) := by decide +kernel
theorem dX2_told_55 : decode cX2_told 55 = .ok (.aload_n 0, 1) := by decide +kernel
theorem dX2_told_56 : decode cX2_told 56 = .ok (.getfield 15, 3) := by decide +kernel
theorem dX2_told_59 : decode cX2_told 59 = .ok (.iload_n 1, 1) := by decide +kernel
theorem dX2_told_60 : decode cX2_told 60 = .ok (.iaload, 1) := by decide +kernel
theorem dX2_told_61 : decode cX2_told 61 = .ok (.ireturn, 1) := by decide +kernel
theorem dX2_told_62 : decode cX2_told 62 = .ok (.aload_n 0, 1) := by decide +kernel
theorem dX2_told_63 : decode cX2_told 63 = .ok (.getfield 18, 3) := by decide +kernel
theorem dX2_told_66 : decode cX2_told 66 = .ok (.iload_n 1, 1) := by decide +kernel
theorem dX2_told_67 : decode cX2_told 67 = .ok (.iaload, 1) := by decide +kernel
theorem dX2_told_68 : decode cX2_told 68 = .ok (.ireturn, 1) := by decide +kernel
theorem dX2_told_69 : decode cX2_told 69 = .ok (.aload_n 0, 1) := by decide +kernel
theorem dX2_told_70 : decode cX2_told 70 = .ok (.getfield 21, 3) := by decide +kernel
theorem dX2_told_73 : decode cX2_told 73 = .ok (.iload_n 1, 1) := by decide +kernel
theorem dX2_told_74 : decode cX2_told 74 = .ok (.iaload, 1) := by decide +kernel
theorem dX2_told_75 : decode cX2_told 75 = .ok (.ireturn, 1) := by decide +kernel
theorem dX2_told_76 : decode cX2_told 76 = .ok (.aload_n 0, 1) := by decide +kernel
theorem dX2_told_77 : decode cX2_told 77 = .ok (.getfield 24, 3) := by decide +kernel
theorem dX2_told_80 : decode cX2_told 80 = .ok (.iload_n 1, 1) := by decide +kernel
theorem dX2_told_81 : decode cX2_told 81 = .ok (.iaload, 1) := by decide +kernel
theorem dX2_told_82 : decode cX2_told 82 = .ok (.ireturn, 1) := by decide +kernel
theorem dX2_told_83 : decode cX2_told 83 = .ok (.aload_n 0, 1) := by decide +kernel
theorem dX2_told_84 : decode cX2_told 84 = .ok (.getfield 27, 3) := by decide +kernel
theorem dX2_told_87 : decode cX2_told 87 = .ok (.iload_n 1, 1) := by decide +kernel
theorem dX2_told_88 : decode cX2_told 88 = .ok (.iaload, 1) := by decide +kernel
theorem dX2_told_89 : decode cX2_told 89 = .ok (.ireturn, 1) := by decide +kernel
theorem dX2_told_90 : decode cX2_told 90 = .ok (.aload_n 0, 1) := by decide +kernel
theorem dX2_told_91 : decode cX2_told 91 = .ok (.getfield 30, 3) := by decide +kernel
theorem dX2_told_94 : decode cX2_told 94 = .ok (.iload_n 1, 1) := by decide +kernel
theorem dX2_told_95 : decode cX2_told 95 = .ok (.iaload, 1) := by decide +kernel
theorem dX2_told_96 : decode cX2_told 96 = .ok (.ireturn, 1) := by decide +kernel
theorem dX2_told_97 : decode cX2_told 97 = .ok (.aload_n 0, 1) := by decide +kernel
theorem dX2_told_98 : decode cX2_told 98 = .ok (.getfield 33, 3) := by decide +kernel
theorem dX2_told_101 : decode cX2_told 101 = .ok (.iload_n 1, 1) := by decide +kernel
theorem dX2_told_102 : decode cX2_told 102 = .ok (.iaload, 1) := by decide +kernel
theorem dX2_told_103 : decode cX2_told 103 = .ok (.ireturn, 1) := by decide +kernel
theorem dX2_change_0 : decode cX2_change 0 = .ok (.iload_n 2, 1) := by decide +kernel
theorem dX2_change_1 : decode cX2_change 1 = .ok (.tableswitch 57 0 2 #[27, 37, 47], 27) := by decide +kernel
theorem dX2_change_28 : decode cX2_change 28 = .ok (.aload_n 0, 1) := by decide +kernel
theorem dX2_change_29 : decode cX2_change 29 = .ok (.getfield 9, 3) := by decide +kernel
theorem dX2_change_32 : decode cX2_change 32 = .ok (.iload_n 1, 1) := by decide +kernel
theorem dX2_change_33 : decode cX2_change 33 = .ok (.iload_n 3, 1) := by decide +kernel
theorem dX2_change_34 : decode cX2_change 34 = .ok (.iastore, 1) := by decide +kernel
theorem dX2_change_35 : decode cX2_change 35 = .ok (.goto 30, 3) := by decide +kernel
theorem dX2_change_38 : decode cX2_change 38 = .ok (.aload_n 0, 1) := by decide +kernel
theorem dX2_change_39 : decode cX2_change 39 = .ok (.getfield 15, 3) := by decide +kernel
theorem dX2_change_42 : decode cX2_change 42 = .ok (.iload_n 1, 1) := by decide +kernel
theorem dX2_change_43 : decode cX2_change 43 = .ok (.iload_n 3, 1) := by decide +kernel
theorem dX2_change_44 : decode cX2_change 44 = .ok (.iastore, 1) := by decide +kernel
theorem dX2_change_45 : decode cX2_change 45 = .ok (.goto 20, 3) := by decide +kernel
theorem dX2_change_48 : decode cX2_change 48 = .ok (.aload_n 0, 1) := by decide +kernel
theorem dX2_change_49 : decode cX2_change 49 = .ok (.getfield 18, 3) := by decide +kernel
theorem dX2_change_52 : decode cX2_change 52 = .ok (.iload_n 1, 1) := by decide +kernel
theorem dX2_change_53 : decode cX2_change 53 = .ok (.iload_n 3, 1) := by decide +kernel
theorem dX2_change_54 : decode cX2_change 54 = .ok (.iastore, 1) := by decide +kernel
theorem dX2_change_55 : decode cX2_change 55 = .ok (.goto 10, 3) := by decide +kernel
theorem dX2_change_58 : decode cX2_change 58 = .ok (.aload_n 0, 1) := by decide +kernel
theorem dX2_change_59 : decode cX2_change 59 = .ok (.getfield 21, 3) := by decide +kernel
theorem dX2_change_62 : decode cX2_change 62 = .ok (.iload_n 1, 1) := by decide +kernel
theorem dX2_change_63 : decode cX2_change 63 = .ok (.iload_n 3, 1) := by decide +kernel
theorem dX2_change_64 : decode cX2_change 64 = .ok (.iastore, 1) := by decide +kernel
theorem dX2_change_65 : decode cX2_change 65 = .ok (.return_, 1) := by decide +kernel
theorem dX2_canDraw_0 : decode cX2_canDraw 0 = .ok (.aload_n 0, 1) := by decide +kernel
theorem dX2_canDraw_1 : decode cX2_canDraw 1 = .ok (.getfield 21, 3) := by decide +kernel
theorem dX2_canDraw_4 : decode cX2_canDraw 4 = .ok (.iload_n 1, 1) := by decide +kernel
theorem dX2_canDraw_5 : decode cX2_canDraw 5 = .ok (.iaload, 1) := by decide +kernel
theorem dX2_canDraw_6 : decode cX2_canDraw 6 = .ok (.ifCond .ne 5, 3) := by decide +kernel
theorem dX2_canDraw_9 : decode cX2_canDraw 9 = .ok (.iconst 0, 1) := by decide +kernel
theorem dX2_canDraw_10 : decode cX2_canDraw 10 = .ok (.ireturn, 1) := by decide +kernel
theorem dX2_canDraw_11 : decode cX2_canDraw 11 = .ok (.iconst 0, 1) := by decide +kernel
theorem dX2_canDraw_12 : decode cX2_canDraw 12 = .ok (.aload_n 0, 1) := by decide +kernel
theorem dX2_canDraw_13 : decode cX2_canDraw 13 = .ok (.getfield 15, 3) := by decide +kernel
theorem dX2_canDraw_16 : decode cX2_canDraw 16 = .ok (.iload_n 1, 1) := by decide +kernel
theorem dX2_canDraw_17 : decode cX2_canDraw 17 = .ok (.iaload, 1) := by decide +kernel
theorem dX2_canDraw_18 : decode cX2_canDraw 18 = .ok (.aload_n 0, 1) := by decide +kernel
theorem dX2_canDraw_19 : decode cX2_canDraw 19 = .ok (.getfield 24, 3) := by decide +kernel
theorem dX2_canDraw_22 : decode cX2_canDraw 22 = .ok (.iload_n 1, 1) := by decide +kernel
theorem dX2_canDraw_23 : decode cX2_canDraw 23 = .ok (.iaload, 1) := by decide +kernel
theorem dX2_canDraw_24 : decode cX2_canDraw 24 = .ok (.iload_n 2, 1) := by decide +kernel
theorem dX2_canDraw_25 : decode cX2_canDraw 25 = .ok (.iadd, 1) := by decide +kernel
theorem dX2_canDraw_26 : decode cX2_canDraw 26 = .ok (.invokestatic 52, 3) := by decide +kernel
theorem dX2_canDraw_29 : decode cX2_canDraw 29 = .ok (.invokestatic 58, 3) := by decide +kernel
theorem dX2_canDraw_32 : decode cX2_canDraw 32 = .ok (.ireturn, 1) := by decide +kernel
theorem dX2_wantAll_0 : decode cX2_wantAll 0 = .ok (.iconst 0, 1) := by decide +kernel
theorem dX2_wantAll_1 : decode cX2_wantAll 1 = .ok (.istore_n 2, 1) := by decide +kernel
theorem dX2_wantAll_2 : decode cX2_wantAll 2 = .ok (.iload_n 2, 1) := by decide +kernel
theorem dX2_wantAll_3 : decode cX2_wantAll 3 = .ok (.aload_n 0, 1) := by decide +kernel
theorem dX2_wantAll_4 : decode cX2_wantAll 4 = .ok (.getfield 42, 3) := by decide +kernel
theorem dX2_wantAll_7 : decode cX2_wantAll 7 = .ok (.if_icmp .ge 33, 3) := by decide +kernel
theorem dX2_wantAll_10 : decode cX2_wantAll 10 = .ok (.aload_n 0, 1) := by decide +kernel
theorem dX2_wantAll_11 : decode cX2_wantAll 11 = .ok (.getfield 36, 3) := by decide +kernel
theorem dX2_wantAll_14 : decode cX2_wantAll 14 = .ok (.iload_n 2, 1) := by decide +kernel
theorem dX2_wantAll_15 : decode cX2_wantAll 15 = .ok (.aload_n 0, 1) := by decide +kernel
theorem dX2_wantAll_16 : decode cX2_wantAll 16 = .ok (.iload_n 2, 1) := by decide +kernel
theorem dX2_wantAll_17 : decode cX2_wantAll 17 = .ok (.iload_n 1, 1) := by decide +kernel
theorem dX2_wantAll_18 : decode cX2_wantAll 18 = .ok (.invokevirtual 61, 3) := by decide +kernel
theorem dX2_wantAll_21 : decode cX2_wantAll 21 = .ok (.iastore, 1) := by decide +kernel
theorem dX2_wantAll_22 : decode cX2_wantAll 22 = .ok (.aload_n 0, 1) := by decide +kernel
theorem dX2_wantAll_23 : decode cX2_wantAll 23 = .ok (.getfield 39, 3) := by decide +kernel
theorem dX2_wantAll_26 : decode cX2_wantAll 26 = .ok (.iload_n 2, 1) := by decide +kernel
theorem dX2_wantAll_27 : decode cX2_wantAll 27 = .ok (.aload_n 0, 1) := by decide +kernel
theorem dX2_wantAll_28 : decode cX2_wantAll 28 = .ok (.getfield 36, 3) := by decide +kernel
theorem dX2_wantAll_31 : decode cX2_wantAll 31 = .ok (.iload_n 2, 1) := by decide +kernel
theorem dX2_wantAll_32 : decode cX2_wantAll 32 = .ok (.iaload, 1) := by decide +kernel
theorem dX2_wantAll_33 : decode cX2_wantAll 33 = .ok (.iastore, 1) := by decide +kernel
theorem dX2_wantAll_34 : decode cX2_wantAll 34 = .ok (.iinc 2 1, 3) := by decide +kernel
theorem dX2_wantAll_37 : decode cX2_wantAll 37 = .ok (.goto (-35), 3) := by decide +kernel
theorem dX2_wantAll_40 : decode cX2_wantAll 40 = .ok (.return_, 1) := by decide +kernel
theorem dX2_sum_0 : decode cX2_sum 0 = .ok (.iconst 0, 1) := by decide +kernel
theorem dX2_sum_1 : decode cX2_sum 1 = .ok (.istore_n 2, 1) := by decide +kernel
theorem dX2_sum_2 : decode cX2_sum 2 = .ok (.iconst 0, 1) := by decide +kernel
theorem dX2_sum_3 : decode cX2_sum 3 = .ok (.istore_n 3, 1) := by decide +kernel
theorem dX2_sum_4 : decode cX2_sum 4 = .ok (.iload_n 3, 1) := by decide +kernel
theorem dX2_sum_5 : decode cX2_sum 5 = .ok (.aload_n 0, 1) := by decide +kernel
theorem dX2_sum_6 : decode cX2_sum 6 = .ok (.getfield 42, 3) := by decide +kernel
theorem dX2_sum_9 : decode cX2_sum 9 = .ok (.if_icmp .ge 15, 3) := by decide +kernel
theorem dX2_sum_12 : decode cX2_sum 12 = .ok (.iload_n 2, 1) := by decide +kernel
theorem dX2_sum_13 : decode cX2_sum 13 = .ok (.aload_n 1, 1) := by decide +kernel
theorem dX2_sum_14 : decode cX2_sum 14 = .ok (.iload_n 3, 1) := by decide +kernel
theorem dX2_sum_15 : decode cX2_sum 15 = .ok (.iaload, 1) := by decide +kernel
theorem dX2_sum_16 : decode cX2_sum 16 = .ok (.iadd, 1) := by decide +kernel
theorem dX2_sum_17 : decode cX2_sum 17 = .ok (.istore_n 2, 1) := by decide +kernel
theorem dX2_sum_18 : decode cX2_sum 18 = .ok (.iinc 3 1, 3) := by decide +kernel
theorem dX2_sum_21 : decode cX2_sum 21 = .ok (.goto (-17), 3) := by decide +kernel
theorem dX2_sum_24 : decode cX2_sum 24 = .ok (.iload_n 2, 1) := by decide +kernel
theorem dX2_sum_25 : decode cX2_sum 25 = .ok (.ireturn, 1) := by decide +kernel
theorem dX2_sumFrom_0 : decode cX2_sumFrom 0 = .ok (.iconst 0, 1) := by decide +kernel
theorem dX2_sumFrom_1 : decode cX2_sumFrom 1 = .ok (.istore_n 3, 1) := by decide +kernel
theorem dX2_sumFrom_2 : decode cX2_sumFrom 2 = .ok (.iconst 0, 1) := by decide +kernel
theorem dX2_sumFrom_3 : decode cX2_sumFrom 3 = .ok (.istore 4, 2) := by decide +kernel
theorem dX2_sumFrom_5 : decode cX2_sumFrom 5 = .ok (.iload 4, 2) := by decide +kernel
theorem dX2_sumFrom_7 : decode cX2_sumFrom 7 = .ok (.aload_n 0, 1) := by decide +kernel
theorem dX2_sumFrom_8 : decode cX2_sumFrom 8 = .ok (.getfield 42, 3) := by decide +kernel
theorem dX2_sumFrom_11 : decode cX2_sumFrom 11 = .ok (.if_icmp .ge 31, 3) := by decide +kernel
theorem dX2_sumFrom_14 : decode cX2_sumFrom 14 = .ok (.iload_n 3, 1) := by decide +kernel
theorem dX2_sumFrom_15 : decode cX2_sumFrom 15 = .ok (.aload_n 0, 1) := by decide +kernel
theorem dX2_sumFrom_16 : decode cX2_sumFrom 16 = .ok (.getfield 9, 3) := by decide +kernel
theorem dX2_sumFrom_19 : decode cX2_sumFrom 19 = .ok (.iload 4, 2) := by decide +kernel
theorem dX2_sumFrom_21 : decode cX2_sumFrom 21 = .ok (.iaload, 1) := by decide +kernel
theorem dX2_sumFrom_22 : decode cX2_sumFrom 22 = .ok (.iload_n 1, 1) := by decide +kernel
theorem dX2_sumFrom_23 : decode cX2_sumFrom 23 = .ok (.if_icmp .ne 10, 3) := by decide +kernel
theorem dX2_sumFrom_26 : decode cX2_sumFrom 26 = .ok (.aload_n 2, 1) := by decide +kernel
theorem dX2_sumFrom_27 : decode cX2_sumFrom 27 = .ok (.iload 4, 2) := by decide +kernel
theorem dX2_sumFrom_29 : decode cX2_sumFrom 29 = .ok (.iaload, 1) := by decide +kernel
theorem dX2_sumFrom_30 : decode cX2_sumFrom 30 = .ok (.goto 4, 3) := by decide +kernel
theorem dX2_sumFrom_33 : decode cX2_sumFrom 33 = .ok (.iconst 0, 1) := by decide +kernel
theorem dX2_sumFrom_34 : decode cX2_sumFrom 34 = .ok (.iadd, 1) := by decide +kernel
theorem dX2_sumFrom_35 : decode cX2_sumFrom 35 = .ok (.istore_n 3, 1) := by decide +kernel
theorem dX2_sumFrom_36 : decode cX2_sumFrom 36 = .ok (.iinc 4 1, 3) := by decide +kernel
theorem dX2_sumFrom_39 : decode cX2_sumFrom 39 = .ok (.goto (-34), 3) := by decide +kernel
theorem dX2_sumFrom_42 : decode cX2_sumFrom 42 = .ok (.iload_n 3, 1) := by decide +kernel
theorem dX2_sumFrom_43 : decode cX2_sumFrom 43 = .ok (.ireturn, 1) := by decide +kernel
theorem dX2_wantNothing_0 : decode cX2_wantNothing 0 = .ok (.iconst 0, 1) := by decide +kernel
theorem dX2_wantNothing_1 : decode cX2_wantNothing 1 = .ok (.istore_n 2, 1) := by decide +kernel
theorem dX2_wantNothing_2 : decode cX2_wantNothing 2 = .ok (.iload_n 2, 1) := by decide +kernel
theorem dX2_wantNothing_3 : decode cX2_wantNothing 3 = .ok (.aload_n 0, 1) := by decide +kernel
theorem dX2_wantNothing_4 : decode cX2_wantNothing 4 = .ok (.getfield 42, 3) := by decide +kernel
theorem dX2_wantNothing_7 : decode cX2_wantNothing 7 = .ok (.if_icmp .ge 26, 3) := by decide +kernel
theorem dX2_wantNothing_10 : decode cX2_wantNothing 10 = .ok (.aload_n 0, 1) := by decide +kernel
theorem dX2_wantNothing_11 : decode cX2_wantNothing 11 = .ok (.getfield 9, 3) := by decide +kernel
theorem dX2_wantNothing_14 : decode cX2_wantNothing 14 = .ok (.iload_n 2, 1) := by decide +kernel
theorem dX2_wantNothing_15 : decode cX2_wantNothing 15 = .ok (.iaload, 1) := by decide +kernel
theorem dX2_wantNothing_16 : decode cX2_wantNothing 16 = .ok (.iload_n 1, 1) := by decide +kernel
theorem dX2_wantNothing_17 : decode cX2_wantNothing 17 = .ok (.if_icmp .ne 10, 3) := by decide +kernel
theorem dX2_wantNothing_20 : decode cX2_wantNothing 20 = .ok (.aload_n 0, 1) := by decide +kernel
theorem dX2_wantNothing_21 : decode cX2_wantNothing 21 = .ok (.getfield 39, 3) := by decide +kernel
theorem dX2_wantNothing_24 : decode cX2_wantNothing 24 = .ok (.iload_n 2, 1) := by decide +kernel
theorem dX2_wantNothing_25 : decode cX2_wantNothing 25 = .ok (.iconst 0, 1) := by decide +kernel
theorem dX2_wantNothing_26 : decode cX2_wantNothing 26 = .ok (.iastore, 1) := by decide +kernel
theorem dX2_wantNothing_27 : decode cX2_wantNothing 27 = .ok (.iinc 2 1, 3) := by decide +kernel
theorem dX2_wantNothing_30 : decode cX2_wantNothing 30 = .ok (.goto (-28), 3) := by decide +kernel
theorem dX2_wantNothing_33 : decode cX2_wantNothing 33 = .ok (.return_, 1) := by decide +kernel
theorem dX2_receive_0 : decode cX2_receive 0 = .ok (.aload_n 0, 1) := by decide +kernel
theorem dX2_receive_1 : decode cX2_receive 1 = .ok (.getfield 27, 3) := by decide +kernel
theorem dX2_receive_4 : decode cX2_receive 4 = .ok (.iload_n 1, 1) := by decide +kernel
theorem dX2_receive_5 : decode cX2_receive 5 = .ok (.iload_n 2, 1) := by decide +kernel
theorem dX2_receive_6 : decode cX2_receive 6 = .ok (.iastore, 1) := by decide +kernel
theorem dX2_receive_7 : decode cX2_receive 7 = .ok (.aload_n 0, 1) := by decide +kernel
theorem dX2_receive_8 : decode cX2_receive 8 = .ok (.getfield 33, 3) := by decide +kernel
theorem dX2_receive_11 : decode cX2_receive 11 = .ok (.iload_n 1, 1) := by decide +kernel
theorem dX2_receive_12 : decode cX2_receive 12 = .ok (.dup2, 1) := by decide +kernel
theorem dX2_receive_13 : decode cX2_receive 13 = .ok (.iaload, 1) := by decide +kernel
theorem dX2_receive_14 : decode cX2_receive 14 = .ok (.iload_n 2, 1) := by decide +kernel
theorem dX2_receive_15 : decode cX2_receive 15 = .ok (.iadd, 1) := by decide +kernel
theorem dX2_receive_16 : decode cX2_receive 16 = .ok (.iastore, 1) := by decide +kernel
theorem dX2_receive_17 : decode cX2_receive 17 = .ok (.aload_n 0, 1) := by decide +kernel
theorem dX2_receive_18 : decode cX2_receive 18 = .ok (.getfield 24, 3) := by decide +kernel
theorem dX2_receive_21 : decode cX2_receive 21 = .ok (.iload_n 1, 1) := by decide +kernel
theorem dX2_receive_22 : decode cX2_receive 22 = .ok (.dup2, 1) := by decide +kernel
theorem dX2_receive_23 : decode cX2_receive 23 = .ok (.iaload, 1) := by decide +kernel
theorem dX2_receive_24 : decode cX2_receive 24 = .ok (.iload_n 2, 1) := by decide +kernel
theorem dX2_receive_25 : decode cX2_receive 25 = .ok (.isub, 1) := by decide +kernel
theorem dX2_receive_26 : decode cX2_receive 26 = .ok (.iastore, 1) := by decide +kernel
theorem dX2_receive_27 : decode cX2_receive 27 = .ok (.aload_n 0, 1) := by decide +kernel
theorem dX2_receive_28 : decode cX2_receive 28 = .ok (.getfield 30, 3) := by decide +kernel
theorem dX2_receive_31 : decode cX2_receive 31 = .ok (.iload_n 1, 1) := by decide +kernel
theorem dX2_receive_32 : decode cX2_receive 32 = .ok (.aload_n 0, 1) := by decide +kernel
theorem dX2_receive_33 : decode cX2_receive 33 = .ok (.iload_n 1, 1) := by decide +kernel
theorem dX2_receive_34 : decode cX2_receive 34 = .ok (.iload_n 3, 1) := by decide +kernel
theorem dX2_receive_35 : decode cX2_receive 35 = .ok (.invokevirtual 64, 3) := by decide +kernel
theorem dX2_receive_38 : decode cX2_receive 38 = .ok (.iastore, 1) := by decide +kernel
theorem dX2_receive_39 : decode cX2_receive 39 = .ok (.return_, 1) := by decide +kernel
theorem dX2_reasonOf_0 : decode cX2_reasonOf 0 = .ok (.aload_n 0, 1) := by decide +kernel
theorem dX2_reasonOf_1 : decode cX2_reasonOf 1 = .ok (.getfield 27, 3) := by decide +kernel
theorem dX2_reasonOf_4 : decode cX2_reasonOf 4 = .ok (.iload_n 1, 1) := by decide +kernel
theorem dX2_reasonOf_5 : decode cX2_reasonOf 5 = .ok (.iaload, 1) := by decide +kernel
theorem dX2_reasonOf_6 : decode cX2_reasonOf 6 = .ok (.aload_n 0, 1) := by decide +kernel
theorem dX2_reasonOf_7 : decode cX2_reasonOf 7 = .ok (.getfield 15, 3) := by decide +kernel
theorem dX2_reasonOf_10 : decode cX2_reasonOf 10 = .ok (.iload_n 1, 1) := by decide +kernel
theorem dX2_reasonOf_11 : decode cX2_reasonOf 11 = .ok (.iaload, 1) := by decide +kernel
theorem dX2_reasonOf_12 : decode cX2_reasonOf 12 = .ok (.if_icmp .ne 5, 3) := by decide +kernel
theorem dX2_reasonOf_15 : decode cX2_reasonOf 15 = .ok (.iconst 0, 1) := by decide +kernel
theorem dX2_reasonOf_16 : decode cX2_reasonOf 16 = .ok (.ireturn, 1) := by decide +kernel
theorem dX2_reasonOf_17 : decode cX2_reasonOf 17 = .ok (.aload_n 0, 1) := by decide +kernel
theorem dX2_reasonOf_18 : decode cX2_reasonOf 18 = .ok (.getfield 21, 3) := by decide +kernel
theorem dX2_reasonOf_21 : decode cX2_reasonOf 21 = .ok (.iload_n 1, 1) := by decide +kernel
theorem dX2_reasonOf_22 : decode cX2_reasonOf 22 = .ok (.iaload, 1) := by decide +kernel
theorem dX2_reasonOf_23 : decode cX2_reasonOf 23 = .ok (.ifCond .ne 5, 3) := by decide +kernel
theorem dX2_reasonOf_26 : decode cX2_reasonOf 26 = .ok (.iconst 1, 1) := by decide +kernel
theorem dX2_reasonOf_27 : decode cX2_reasonOf 27 = .ok (.ireturn, 1) := by decide +kernel
theorem dX2_reasonOf_28 : decode cX2_reasonOf 28 = .ok (.aload_n 0, 1) := by decide +kernel
theorem dX2_reasonOf_29 : decode cX2_reasonOf 29 = .ok (.getfield 36, 3) := by decide +kernel
theorem dX2_reasonOf_32 : decode cX2_reasonOf 32 = .ok (.iload_n 1, 1) := by decide +kernel
theorem dX2_reasonOf_33 : decode cX2_reasonOf 33 = .ok (.iaload, 1) := by decide +kernel
theorem dX2_reasonOf_34 : decode cX2_reasonOf 34 = .ok (.aload_n 0, 1) := by decide +kernel
theorem dX2_reasonOf_35 : decode cX2_reasonOf 35 = .ok (.getfield 15, 3) := by decide +kernel
theorem dX2_reasonOf_38 : decode cX2_reasonOf 38 = .ok (.iload_n 1, 1) := by decide +kernel
theorem dX2_reasonOf_39 : decode cX2_reasonOf 39 = .ok (.iaload, 1) := by decide +kernel
theorem dX2_reasonOf_40 : decode cX2_reasonOf 40 = .ok (.if_icmp .ge 5, 3) := by decide +kernel
theorem dX2_reasonOf_43 : decode cX2_reasonOf 43 = .ok (.iconst 2, 1) := by decide +kernel
theorem dX2_reasonOf_44 : decode cX2_reasonOf 44 = .ok (.ireturn, 1) := by decide +kernel
theorem dX2_reasonOf_45 : decode cX2_reasonOf 45 = .ok (.iload_n 2, 1) := by decide +kernel
theorem dX2_reasonOf_46 : decode cX2_reasonOf 46 = .ok (.ifCond .eq 7, 3) := by decide +kernel
theorem dX2_reasonOf_49 : decode cX2_reasonOf 49 = .ok (.iconst 3, 1) := by decide +kernel
theorem dX2_reasonOf_50 : decode cX2_reasonOf 50 = .ok (.goto 4, 3) := by decide +kernel
theorem dX2_reasonOf_53 : decode cX2_reasonOf 53 = .ok (.iconst 4, 1) := by decide +kernel
theorem dX2_reasonOf_54 : decode cX2_reasonOf 54 = .ok (.ireturn, 1) := by decide +kernel
theorem dX2_overdrawn_0 : decode cX2_overdrawn 0 = .ok (.iconst 0, 1) := by decide +kernel
theorem dX2_overdrawn_1 : decode cX2_overdrawn 1 = .ok (.istore_n 1, 1) := by decide +kernel
theorem dX2_overdrawn_2 : decode cX2_overdrawn 2 = .ok (.iconst 0, 1) := by decide +kernel
theorem dX2_overdrawn_3 : decode cX2_overdrawn 3 = .ok (.istore_n 2, 1) := by decide +kernel
theorem dX2_overdrawn_4 : decode cX2_overdrawn 4 = .ok (.iload_n 2, 1) := by decide +kernel
theorem dX2_overdrawn_5 : decode cX2_overdrawn 5 = .ok (.aload_n 0, 1) := by decide +kernel
theorem dX2_overdrawn_6 : decode cX2_overdrawn 6 = .ok (.getfield 42, 3) := by decide +kernel
theorem dX2_overdrawn_9 : decode cX2_overdrawn 9 = .ok (.if_icmp .ge 26, 3) := by decide +kernel
theorem dX2_overdrawn_12 : decode cX2_overdrawn 12 = .ok (.iload_n 1, 1) := by decide +kernel
theorem dX2_overdrawn_13 : decode cX2_overdrawn 13 = .ok (.aload_n 0, 1) := by decide +kernel
theorem dX2_overdrawn_14 : decode cX2_overdrawn 14 = .ok (.getfield 24, 3) := by decide +kernel
theorem dX2_overdrawn_17 : decode cX2_overdrawn 17 = .ok (.iload_n 2, 1) := by decide +kernel
theorem dX2_overdrawn_18 : decode cX2_overdrawn 18 = .ok (.iaload, 1) := by decide +kernel
theorem dX2_overdrawn_19 : decode cX2_overdrawn 19 = .ok (.ifCond .ge 7, 3) := by decide +kernel
theorem dX2_overdrawn_22 : decode cX2_overdrawn 22 = .ok (.iconst 1, 1) := by decide +kernel
theorem dX2_overdrawn_23 : decode cX2_overdrawn 23 = .ok (.goto 4, 3) := by decide +kernel
theorem dX2_overdrawn_26 : decode cX2_overdrawn 26 = .ok (.iconst 0, 1) := by decide +kernel
theorem dX2_overdrawn_27 : decode cX2_overdrawn 27 = .ok (.iadd, 1) := by decide +kernel
theorem dX2_overdrawn_28 : decode cX2_overdrawn 28 = .ok (.istore_n 1, 1) := by decide +kernel
theorem dX2_overdrawn_29 : decode cX2_overdrawn 29 = .ok (.iinc 2 1, 3) := by decide +kernel
theorem dX2_overdrawn_32 : decode cX2_overdrawn 32 = .ok (.goto (-28), 3) := by decide +kernel
theorem dX2_overdrawn_35 : decode cX2_overdrawn 35 = .ok (.iload_n 1, 1) := by decide +kernel
theorem dX2_overdrawn_36 : decode cX2_overdrawn 36 = .ok (.ireturn, 1) := by decide +kernel
theorem dX2_sizeOf_0 : decode cX2_sizeOf 0 = .ok (.iconst 0, 1) := by decide +kernel
theorem dX2_sizeOf_1 : decode cX2_sizeOf 1 = .ok (.istore_n 2, 1) := by decide +kernel
theorem dX2_sizeOf_2 : decode cX2_sizeOf 2 = .ok (.iconst 0, 1) := by decide +kernel
theorem dX2_sizeOf_3 : decode cX2_sizeOf 3 = .ok (.istore_n 3, 1) := by decide +kernel
theorem dX2_sizeOf_4 : decode cX2_sizeOf 4 = .ok (.iload_n 3, 1) := by decide +kernel
theorem dX2_sizeOf_5 : decode cX2_sizeOf 5 = .ok (.aload_n 0, 1) := by decide +kernel
theorem dX2_sizeOf_6 : decode cX2_sizeOf 6 = .ok (.getfield 42, 3) := by decide +kernel
theorem dX2_sizeOf_9 : decode cX2_sizeOf 9 = .ok (.if_icmp .ge 27, 3) := by decide +kernel
theorem dX2_sizeOf_12 : decode cX2_sizeOf 12 = .ok (.iload_n 2, 1) := by decide +kernel
theorem dX2_sizeOf_13 : decode cX2_sizeOf 13 = .ok (.aload_n 0, 1) := by decide +kernel
theorem dX2_sizeOf_14 : decode cX2_sizeOf 14 = .ok (.getfield 9, 3) := by decide +kernel
theorem dX2_sizeOf_17 : decode cX2_sizeOf 17 = .ok (.iload_n 3, 1) := by decide +kernel
theorem dX2_sizeOf_18 : decode cX2_sizeOf 18 = .ok (.iaload, 1) := by decide +kernel
theorem dX2_sizeOf_19 : decode cX2_sizeOf 19 = .ok (.iload_n 1, 1) := by decide +kernel
theorem dX2_sizeOf_20 : decode cX2_sizeOf 20 = .ok (.if_icmp .ne 7, 3) := by decide +kernel
theorem dX2_sizeOf_23 : decode cX2_sizeOf 23 = .ok (.iconst 1, 1) := by decide +kernel
theorem dX2_sizeOf_24 : decode cX2_sizeOf 24 = .ok (.goto 4, 3) := by decide +kernel
theorem dX2_sizeOf_27 : decode cX2_sizeOf 27 = .ok (.iconst 0, 1) := by decide +kernel
theorem dX2_sizeOf_28 : decode cX2_sizeOf 28 = .ok (.iadd, 1) := by decide +kernel
theorem dX2_sizeOf_29 : decode cX2_sizeOf 29 = .ok (.istore_n 2, 1) := by decide +kernel
theorem dX2_sizeOf_30 : decode cX2_sizeOf 30 = .ok (.iinc 3 1, 3) := by decide +kernel
theorem dX2_sizeOf_33 : decode cX2_sizeOf 33 = .ok (.goto (-29), 3) := by decide +kernel
theorem dX2_sizeOf_36 : decode cX2_sizeOf 36 = .ok (.iload_n 2, 1) := by decide +kernel
theorem dX2_sizeOf_37 : decode cX2_sizeOf 37 = .ok (.ireturn, 1) := by decide +kernel
theorem dX2_drawnFrom_0 : decode cX2_drawnFrom 0 = .ok (.iconst 0, 1) := by decide +kernel
theorem dX2_drawnFrom_1 : decode cX2_drawnFrom 1 = .ok (.istore_n 3, 1) := by decide +kernel
theorem dX2_drawnFrom_2 : decode cX2_drawnFrom 2 = .ok (.iconst 0, 1) := by decide +kernel
theorem dX2_drawnFrom_3 : decode cX2_drawnFrom 3 = .ok (.istore 4, 2) := by decide +kernel
theorem dX2_drawnFrom_5 : decode cX2_drawnFrom 5 = .ok (.iload 4, 2) := by decide +kernel
theorem dX2_drawnFrom_7 : decode cX2_drawnFrom 7 = .ok (.aload_n 0, 1) := by decide +kernel
theorem dX2_drawnFrom_8 : decode cX2_drawnFrom 8 = .ok (.getfield 42, 3) := by decide +kernel
theorem dX2_drawnFrom_11 : decode cX2_drawnFrom 11 = .ok (.if_icmp .ge 34, 3) := by decide +kernel
theorem dX2_drawnFrom_14 : decode cX2_drawnFrom 14 = .ok (.iload_n 3, 1) := by decide +kernel
theorem dX2_drawnFrom_15 : decode cX2_drawnFrom 15 = .ok (.aload_n 0, 1) := by decide +kernel
theorem dX2_drawnFrom_16 : decode cX2_drawnFrom 16 = .ok (.getfield 9, 3) := by decide +kernel
theorem dX2_drawnFrom_19 : decode cX2_drawnFrom 19 = .ok (.iload 4, 2) := by decide +kernel
theorem dX2_drawnFrom_21 : decode cX2_drawnFrom 21 = .ok (.iaload, 1) := by decide +kernel
theorem dX2_drawnFrom_22 : decode cX2_drawnFrom 22 = .ok (.iload_n 1, 1) := by decide +kernel
theorem dX2_drawnFrom_23 : decode cX2_drawnFrom 23 = .ok (.if_icmp .ne 13, 3) := by decide +kernel
theorem dX2_drawnFrom_26 : decode cX2_drawnFrom 26 = .ok (.aload_n 0, 1) := by decide +kernel
theorem dX2_drawnFrom_27 : decode cX2_drawnFrom 27 = .ok (.iload 4, 2) := by decide +kernel
theorem dX2_drawnFrom_29 : decode cX2_drawnFrom 29 = .ok (.iload_n 2, 1) := by decide +kernel
theorem dX2_drawnFrom_30 : decode cX2_drawnFrom 30 = .ok (.invokevirtual 61, 3) := by decide +kernel
theorem dX2_drawnFrom_33 : decode cX2_drawnFrom 33 = .ok (.goto 4, 3) := by decide +kernel
theorem dX2_drawnFrom_36 : decode cX2_drawnFrom 36 = .ok (.iconst 0, 1) := by decide +kernel
theorem dX2_drawnFrom_37 : decode cX2_drawnFrom 37 = .ok (.iadd, 1) := by decide +kernel
theorem dX2_drawnFrom_38 : decode cX2_drawnFrom 38 = .ok (.istore_n 3, 1) := by decide +kernel
theorem dX2_drawnFrom_39 : decode cX2_drawnFrom 39 = .ok (.iinc 4 1, 3) := by decide +kernel
theorem dX2_drawnFrom_42 : decode cX2_drawnFrom 42 = .ok (.goto (-37), 3) := by decide +kernel
theorem dX2_drawnFrom_45 : decode cX2_drawnFrom 45 = .ok (.iload_n 3, 1) := by decide +kernel
theorem dX2_drawnFrom_46 : decode cX2_drawnFrom 46 = .ok (.ireturn, 1) := by decide +kernel
theorem dX3_init_0 : decode cX3_init 0 = .ok (.aload_n 0, 1) := by decide +kernel
theorem dX3_init_1 : decode cX3_init 1 = .ok (.invokespecial 3, 3) := by decide +kernel
theorem dX3_init_4 : decode cX3_init 4 = .ok (.aload_n 0, 1) := by decide +kernel
theorem dX3_init_5 : decode cX3_init 5 = .ok (.bipush 60, 2) := by decide +kernel
theorem dX3_init_7 : decode cX3_init 7 = .ok (.newarray .int, 2) := by decide +kernel
theorem dX3_init_9 : decode cX3_init 9 = .ok (.putfield 9, 3) := by decide +kernel
theorem dX3_init_12 : decode cX3_init 12 = .ok (.aload_n 0, 1) := by decide +kernel
theorem dX3_init_13 : decode cX3_init 13 = .ok (.bipush 48, 2) := by decide +kernel
theorem dX3_init_15 : decode cX3_init 15 = .ok (.newarray .int, 2) := by decide +kernel
theorem dX3_init_17 : decode cX3_init 17 = .ok (.putfield 15, 3) := by decide +kernel
theorem dX3_init_20 : decode cX3_init 20 = .ok (.return_, 1) := by decide +kernel
theorem dX4_init_0 : decode cX4_init 0 = .ok (.aload_n 0, 1) := by decide +kernel
theorem dX4_init_1 : decode cX4_init 1 = .ok (.invokespecial 3, 3) := by decide +kernel
theorem dX4_init_4 : decode cX4_init 4 = .ok (.aload_n 0, 1) := by decide +kernel
theorem dX4_init_5 : decode cX4_init 5 = .ok (.bipush 12, 2) := by decide +kernel
theorem dX4_init_7 : decode cX4_init 7 = .ok (.newarray .int, 2) := by decide +kernel
theorem dX4_init_9 : decode cX4_init 9 = .ok (.putfield 9, 3) := by decide +kernel
theorem dX4_init_12 : decode cX4_init 12 = .ok (.aload_n 0, 1) := by decide +kernel
theorem dX4_init_13 : decode cX4_init 13 = .ok (.bipush 12, 2) := by decide +kernel
theorem dX4_init_15 : decode cX4_init 15 = .ok (.newarray .int, 2) := by decide +kernel
theorem dX4_init_17 : decode cX4_init 17 = .ok (.putfield 15, 3) := by decide +kernel
theorem dX4_init_20 : decode cX4_init 20 = .ok (.aload_n 0, 1) := by decide +kernel
theorem dX4_init_21 : decode cX4_init 21 = .ok (.bipush 12, 2) := by decide +kernel
theorem dX4_init_23 : decode cX4_init 23 = .ok (.newarray .int, 2) := by decide +kernel
theorem dX4_init_25 : decode cX4_init 25 = .ok (.putfield 18, 3) := by decide +kernel
theorem dX4_init_28 : decode cX4_init 28 = .ok (.return_, 1) := by decide +kernel
theorem dX4_add_0 : decode cX4_add 0 = .ok (.aload_n 0, 1) := by decide +kernel
theorem dX4_add_1 : decode cX4_add 1 = .ok (.getfield 9, 3) := by decide +kernel
theorem dX4_add_4 : decode cX4_add 4 = .ok (.aload_n 0, 1) := by decide +kernel
theorem dX4_add_5 : decode cX4_add 5 = .ok (.getfield 21, 3) := by decide +kernel
theorem dX4_add_8 : decode cX4_add 8 = .ok (.iload_n 1, 1) := by decide +kernel
theorem dX4_add_9 : decode cX4_add 9 = .ok (.iastore, 1) := by decide +kernel
theorem dX4_add_10 : decode cX4_add 10 = .ok (.aload_n 0, 1) := by decide +kernel
theorem dX4_add_11 : decode cX4_add 11 = .ok (.getfield 15, 3) := by decide +kernel
theorem dX4_add_14 : decode cX4_add 14 = .ok (.aload_n 0, 1) := by decide +kernel
theorem dX4_add_15 : decode cX4_add 15 = .ok (.getfield 21, 3) := by decide +kernel
theorem dX4_add_18 : decode cX4_add 18 = .ok (.iload_n 2, 1) := by decide +kernel
theorem dX4_add_19 : decode cX4_add 19 = .ok (.iastore, 1) := by decide +kernel
theorem dX4_add_20 : decode cX4_add 20 = .ok (.aload_n 0, 1) := by decide +kernel
theorem dX4_add_21 : decode cX4_add 21 = .ok (.getfield 18, 3) := by decide +kernel
theorem dX4_add_24 : decode cX4_add 24 = .ok (.aload_n 0, 1) := by decide +kernel
theorem dX4_add_25 : decode cX4_add 25 = .ok (.getfield 21, 3) := by decide +kernel
theorem dX4_add_28 : decode cX4_add 28 = .ok (.iload_n 3, 1) := by decide +kernel
theorem dX4_add_29 : decode cX4_add 29 = .ok (.iastore, 1) := by decide +kernel
theorem dX4_add_30 : decode cX4_add 30 = .ok (.aload_n 0, 1) := by decide +kernel
theorem dX4_add_31 : decode cX4_add 31 = .ok (.dup, 1) := by decide +kernel
theorem dX4_add_32 : decode cX4_add 32 = .ok (.getfield 21, 3) := by decide +kernel
theorem dX4_add_35 : decode cX4_add 35 = .ok (.iconst 1, 1) := by decide +kernel
theorem dX4_add_36 : decode cX4_add 36 = .ok (.iadd, 1) := by decide +kernel
theorem dX4_add_37 : decode cX4_add 37 = .ok (.putfield 21, 3) := by decide +kernel
theorem dX4_add_40 : decode cX4_add 40 = .ok (.return_, 1) := by decide +kernel
theorem dX4_remove_0 : decode cX4_remove 0 = .ok (.aload_n 0, 1) := by decide +kernel
theorem dX4_remove_1 : decode cX4_remove 1 = .ok (.dup, 1) := by decide +kernel
theorem dX4_remove_2 : decode cX4_remove 2 = .ok (.getfield 21, 3) := by decide +kernel
theorem dX4_remove_5 : decode cX4_remove 5 = .ok (.iconst 1, 1) := by decide +kernel
theorem dX4_remove_6 : decode cX4_remove 6 = .ok (.isub, 1) := by decide +kernel
theorem dX4_remove_7 : decode cX4_remove 7 = .ok (.putfield 21, 3) := by decide +kernel
theorem dX4_remove_10 : decode cX4_remove 10 = .ok (.iload_n 1, 1) := by decide +kernel
theorem dX4_remove_11 : decode cX4_remove 11 = .ok (.istore_n 2, 1) := by decide +kernel
theorem dX4_remove_12 : decode cX4_remove 12 = .ok (.iload_n 2, 1) := by decide +kernel
theorem dX4_remove_13 : decode cX4_remove 13 = .ok (.aload_n 0, 1) := by decide +kernel
theorem dX4_remove_14 : decode cX4_remove 14 = .ok (.getfield 21, 3) := by decide +kernel
theorem dX4_remove_17 : decode cX4_remove 17 = .ok (.if_icmp .ge 51, 3) := by decide +kernel
theorem dX4_remove_20 : decode cX4_remove 20 = .ok (.aload_n 0, 1) := by decide +kernel
theorem dX4_remove_21 : decode cX4_remove 21 = .ok (.getfield 9, 3) := by decide +kernel
theorem dX4_remove_24 : decode cX4_remove 24 = .ok (.iload_n 2, 1) := by decide +kernel
theorem dX4_remove_25 : decode cX4_remove 25 = .ok (.aload_n 0, 1) := by decide +kernel
theorem dX4_remove_26 : decode cX4_remove 26 = .ok (.getfield 9, 3) := by decide +kernel
theorem dX4_remove_29 : decode cX4_remove 29 = .ok (.iload_n 2, 1) := by decide +kernel
theorem dX4_remove_30 : decode cX4_remove 30 = .ok (.iconst 1, 1) := by decide +kernel
theorem dX4_remove_31 : decode cX4_remove 31 = .ok (.iadd, 1) := by decide +kernel
theorem dX4_remove_32 : decode cX4_remove 32 = .ok (.iaload, 1) := by decide +kernel
theorem dX4_remove_33 : decode cX4_remove 33 = .ok (.iastore, 1) := by decide +kernel
theorem dX4_remove_34 : decode cX4_remove 34 = .ok (.aload_n 0, 1) := by decide +kernel
theorem dX4_remove_35 : decode cX4_remove 35 = .ok (.getfield 15, 3) := by decide +kernel
theorem dX4_remove_38 : decode cX4_remove 38 = .ok (.iload_n 2, 1) := by decide +kernel
theorem dX4_remove_39 : decode cX4_remove 39 = .ok (.aload_n 0, 1) := by decide +kernel
theorem dX4_remove_40 : decode cX4_remove 40 = .ok (.getfield 15, 3) := by decide +kernel
theorem dX4_remove_43 : decode cX4_remove 43 = .ok (.iload_n 2, 1) := by decide +kernel
theorem dX4_remove_44 : decode cX4_remove 44 = .ok (.iconst 1, 1) := by decide +kernel
theorem dX4_remove_45 : decode cX4_remove 45 = .ok (.iadd, 1) := by decide +kernel
theorem dX4_remove_46 : decode cX4_remove 46 = .ok (.iaload, 1) := by decide +kernel
theorem dX4_remove_47 : decode cX4_remove 47 = .ok (.iastore, 1) := by decide +kernel
theorem dX4_remove_48 : decode cX4_remove 48 = .ok (.aload_n 0, 1) := by decide +kernel
theorem dX4_remove_49 : decode cX4_remove 49 = .ok (.getfield 18, 3) := by decide +kernel
theorem dX4_remove_52 : decode cX4_remove 52 = .ok (.iload_n 2, 1) := by decide +kernel
theorem dX4_remove_53 : decode cX4_remove 53 = .ok (.aload_n 0, 1) := by decide +kernel
theorem dX4_remove_54 : decode cX4_remove 54 = .ok (.getfield 18, 3) := by decide +kernel
theorem dX4_remove_57 : decode cX4_remove 57 = .ok (.iload_n 2, 1) := by decide +kernel
theorem dX4_remove_58 : decode cX4_remove 58 = .ok (.iconst 1, 1) := by decide +kernel
theorem dX4_remove_59 : decode cX4_remove 59 = .ok (.iadd, 1) := by decide +kernel
theorem dX4_remove_60 : decode cX4_remove 60 = .ok (.iaload, 1) := by decide +kernel
theorem dX4_remove_61 : decode cX4_remove 61 = .ok (.iastore, 1) := by decide +kernel
theorem dX4_remove_62 : decode cX4_remove 62 = .ok (.iinc 2 1, 3) := by decide +kernel
theorem dX4_remove_65 : decode cX4_remove 65 = .ok (.goto (-53), 3) := by decide +kernel
theorem dX4_remove_68 : decode cX4_remove 68 = .ok (.return_, 1) := by decide +kernel
theorem dX4_copy_0 : decode cX4_copy 0 = .ok (.aload_n 0, 1) := by decide +kernel
theorem dX4_copy_1 : decode cX4_copy 1 = .ok (.aload_n 1, 1) := by decide +kernel
theorem dX4_copy_2 : decode cX4_copy 2 = .ok (.getfield 21, 3) := by decide +kernel
theorem dX4_copy_5 : decode cX4_copy 5 = .ok (.putfield 21, 3) := by decide +kernel
theorem dX4_copy_8 : decode cX4_copy 8 = .ok (.aload_n 1, 1) := by decide +kernel
theorem dX4_copy_9 : decode cX4_copy 9 = .ok (.getfield 9, 3) := by decide +kernel
theorem dX4_copy_12 : decode cX4_copy 12 = .ok (.iconst 0, 1) := by decide +kernel
theorem dX4_copy_13 : decode cX4_copy 13 = .ok (.aload_n 0, 1) := by decide +kernel
theorem dX4_copy_14 : decode cX4_copy 14 = .ok (.getfield 9, 3) := by decide +kernel
theorem dX4_copy_17 : decode cX4_copy 17 = .ok (.iconst 0, 1) := by decide +kernel
theorem dX4_copy_18 : decode cX4_copy 18 = .ok (.bipush 12, 2) := by decide +kernel
theorem dX4_copy_20 : decode cX4_copy 20 = .ok (.invokestatic 25, 3) := by decide +kernel
theorem dX4_copy_23 : decode cX4_copy 23 = .ok (.aload_n 1, 1) := by decide +kernel
theorem dX4_copy_24 : decode cX4_copy 24 = .ok (.getfield 15, 3) := by decide +kernel
theorem dX4_copy_27 : decode cX4_copy 27 = .ok (.iconst 0, 1) := by decide +kernel
theorem dX4_copy_28 : decode cX4_copy 28 = .ok (.aload_n 0, 1) := by decide +kernel
theorem dX4_copy_29 : decode cX4_copy 29 = .ok (.getfield 15, 3) := by decide +kernel
theorem dX4_copy_32 : decode cX4_copy 32 = .ok (.iconst 0, 1) := by decide +kernel
theorem dX4_copy_33 : decode cX4_copy 33 = .ok (.bipush 12, 2) := by decide +kernel
theorem dX4_copy_35 : decode cX4_copy 35 = .ok (.invokestatic 25, 3) := by decide +kernel
theorem dX4_copy_38 : decode cX4_copy 38 = .ok (.aload_n 1, 1) := by decide +kernel
theorem dX4_copy_39 : decode cX4_copy 39 = .ok (.getfield 18, 3) := by decide +kernel
theorem dX4_copy_42 : decode cX4_copy 42 = .ok (.iconst 0, 1) := by decide +kernel
theorem dX4_copy_43 : decode cX4_copy 43 = .ok (.aload_n 0, 1) := by decide +kernel
theorem dX4_copy_44 : decode cX4_copy 44 = .ok (.getfield 18, 3) := by decide +kernel
theorem dX4_copy_47 : decode cX4_copy 47 = .ok (.iconst 0, 1) := by decide +kernel
theorem dX4_copy_48 : decode cX4_copy 48 = .ok (.bipush 12, 2) := by decide +kernel
theorem dX4_copy_50 : decode cX4_copy 50 = .ok (.invokestatic 25, 3) := by decide +kernel
theorem dX4_copy_53 : decode cX4_copy 53 = .ok (.return_, 1) := by decide +kernel
theorem dX4_told_0 : decode cX4_told 0 = .ok (.iload_n 2, 1) := by decide +kernel
theorem dX4_told_1 : decode cX4_told 1 = .ok (.lookupswitch 41 #[(0, 27), (1, 34)], 27) := by decide +kernel
theorem dX4_told_28 : decode cX4_told 28 = .ok (.aload_n 0, 1) := by decide +kernel
theorem dX4_told_29 : decode cX4_told 29 = .ok (.getfield 9, 3) := by decide +kernel
theorem dX4_told_32 : decode cX4_told 32 = .ok (.iload_n 1, 1) := by decide +kernel
theorem dX4_told_33 : decode cX4_told 33 = .ok (.iaload, 1) := by decide +kernel
theorem dX4_told_34 : decode cX4_told 34 = .ok (.ireturn, 1) := by decide +kernel
theorem dX4_told_35 : decode cX4_told 35 = .ok (.aload_n 0, 1) := by decide +kernel
theorem dX4_told_36 : decode cX4_told 36 = .ok (.getfield 15, 3) := by decide +kernel
theorem dX4_told_39 : decode cX4_told 39 = .ok (.iload_n 1, 1) := by decide +kernel
theorem dX4_told_40 : decode cX4_told 40 = .ok (.iaload, 1) := by decide +kernel
theorem dX4_told_41 : decode cX4_told 41 = .ok (.ireturn, 1) := by decide +kernel
theorem dX4_told_42 : decode cX4_told 42 = .ok (.aload_n 0, 1) := by decide +kernel
theorem dX4_told_43 : decode cX4_told 43 = .ok (.getfield 18, 3) := by decide +kernel
theorem dX4_told_46 : decode cX4_told 46 = .ok (.iload_n 1, 1) := by decide +kernel
theorem dX4_told_47 : decode cX4_told 47 = .ok (.iaload, 1) := by decide +kernel
theorem dX4_told_48 : decode cX4_told 48 = .ok (.ireturn, 1) := by decide +kernel
theorem dX4_owedBy_0 : decode cX4_owedBy 0 = .ok (.aload_n 0, 1) := by decide +kernel
theorem dX4_owedBy_1 : decode cX4_owedBy 1 = .ok (.aload_n 0, 1) := by decide +kernel
theorem dX4_owedBy_2 : decode cX4_owedBy 2 = .ok (.getfield 15, 3) := by decide +kernel
theorem dX4_owedBy_5 : decode cX4_owedBy 5 = .ok (.iload_n 1, 1) := by decide +kernel
theorem dX4_owedBy_6 : decode cX4_owedBy 6 = .ok (.invokevirtual 31, 3) := by decide +kernel
theorem dX4_owedBy_9 : decode cX4_owedBy 9 = .ok (.ireturn, 1) := by decide +kernel
theorem dX4_owedTo_0 : decode cX4_owedTo 0 = .ok (.aload_n 0, 1) := by decide +kernel
theorem dX4_owedTo_1 : decode cX4_owedTo 1 = .ok (.aload_n 0, 1) := by decide +kernel
theorem dX4_owedTo_2 : decode cX4_owedTo 2 = .ok (.getfield 9, 3) := by decide +kernel
theorem dX4_owedTo_5 : decode cX4_owedTo 5 = .ok (.iload_n 1, 1) := by decide +kernel
theorem dX4_owedTo_6 : decode cX4_owedTo 6 = .ok (.invokevirtual 31, 3) := by decide +kernel
theorem dX4_owedTo_9 : decode cX4_owedTo 9 = .ok (.ireturn, 1) := by decide +kernel
theorem dX4_sumOwed_0 : decode cX4_sumOwed 0 = .ok (.iconst 0, 1) := by decide +kernel
theorem dX4_sumOwed_1 : decode cX4_sumOwed 1 = .ok (.istore_n 3, 1) := by decide +kernel
theorem dX4_sumOwed_2 : decode cX4_sumOwed 2 = .ok (.iconst 0, 1) := by decide +kernel
theorem dX4_sumOwed_3 : decode cX4_sumOwed 3 = .ok (.istore 4, 2) := by decide +kernel
theorem dX4_sumOwed_5 : decode cX4_sumOwed 5 = .ok (.iload 4, 2) := by decide +kernel
theorem dX4_sumOwed_7 : decode cX4_sumOwed 7 = .ok (.aload_n 0, 1) := by decide +kernel
theorem dX4_sumOwed_8 : decode cX4_sumOwed 8 = .ok (.getfield 21, 3) := by decide +kernel
theorem dX4_sumOwed_11 : decode cX4_sumOwed 11 = .ok (.if_icmp .ge 31, 3) := by decide +kernel
theorem dX4_sumOwed_14 : decode cX4_sumOwed 14 = .ok (.iload_n 3, 1) := by decide +kernel
theorem dX4_sumOwed_15 : decode cX4_sumOwed 15 = .ok (.aload_n 1, 1) := by decide +kernel
theorem dX4_sumOwed_16 : decode cX4_sumOwed 16 = .ok (.iload 4, 2) := by decide +kernel
theorem dX4_sumOwed_18 : decode cX4_sumOwed 18 = .ok (.iaload, 1) := by decide +kernel
theorem dX4_sumOwed_19 : decode cX4_sumOwed 19 = .ok (.iload_n 2, 1) := by decide +kernel
theorem dX4_sumOwed_20 : decode cX4_sumOwed 20 = .ok (.if_icmp .ne 13, 3) := by decide +kernel
theorem dX4_sumOwed_23 : decode cX4_sumOwed 23 = .ok (.aload_n 0, 1) := by decide +kernel
theorem dX4_sumOwed_24 : decode cX4_sumOwed 24 = .ok (.getfield 18, 3) := by decide +kernel
theorem dX4_sumOwed_27 : decode cX4_sumOwed 27 = .ok (.iload 4, 2) := by decide +kernel
theorem dX4_sumOwed_29 : decode cX4_sumOwed 29 = .ok (.iaload, 1) := by decide +kernel
theorem dX4_sumOwed_30 : decode cX4_sumOwed 30 = .ok (.goto 4, 3) := by decide +kernel
theorem dX4_sumOwed_33 : decode cX4_sumOwed 33 = .ok (.iconst 0, 1) := by decide +kernel
theorem dX4_sumOwed_34 : decode cX4_sumOwed 34 = .ok (.iadd, 1) := by decide +kernel
theorem dX4_sumOwed_35 : decode cX4_sumOwed 35 = .ok (.istore_n 3, 1) := by decide +kernel
theorem dX4_sumOwed_36 : decode cX4_sumOwed 36 = .ok (.iinc 4 1, 3) := by decide +kernel
theorem dX4_sumOwed_39 : decode cX4_sumOwed 39 = .ok (.goto (-34), 3) := by decide +kernel
theorem dX4_sumOwed_42 : decode cX4_sumOwed 42 = .ok (.iload_n 3, 1) := by decide +kernel
theorem dX4_sumOwed_43 : decode cX4_sumOwed 43 = .ok (.ireturn, 1) := by decide +kernel
theorem dX4_removePaid_0 : decode cX4_removePaid 0 = .ok (.aload_n 0, 1) := by decide +kernel
theorem dX4_removePaid_1 : decode cX4_removePaid 1 = .ok (.getfield 21, 3) := by decide +kernel
theorem dX4_removePaid_4 : decode cX4_removePaid 4 = .ok (.iconst 1, 1) := by decide +kernel
theorem dX4_removePaid_5 : decode cX4_removePaid 5 = .ok (.isub, 1) := by decide +kernel
theorem dX4_removePaid_6 : decode cX4_removePaid 6 = .ok (.istore_n 1, 1) := by decide +kernel
theorem dX4_removePaid_7 : decode cX4_removePaid 7 = .ok (.iload_n 1, 1) := by decide +kernel
theorem dX4_removePaid_8 : decode cX4_removePaid 8 = .ok (.ifCond .lt 23, 3) := by decide +kernel
theorem dX4_removePaid_11 : decode cX4_removePaid 11 = .ok (.aload_n 0, 1) := by decide +kernel
theorem dX4_removePaid_12 : decode cX4_removePaid 12 = .ok (.getfield 18, 3) := by decide +kernel
theorem dX4_removePaid_15 : decode cX4_removePaid 15 = .ok (.iload_n 1, 1) := by decide +kernel
theorem dX4_removePaid_16 : decode cX4_removePaid 16 = .ok (.iaload, 1) := by decide +kernel
theorem dX4_removePaid_17 : decode cX4_removePaid 17 = .ok (.ifCond .gt 8, 3) := by decide +kernel
theorem dX4_removePaid_20 : decode cX4_removePaid 20 = .ok (.aload_n 0, 1) := by decide +kernel
theorem dX4_removePaid_21 : decode cX4_removePaid 21 = .ok (.iload_n 1, 1) := by decide +kernel
theorem dX4_removePaid_22 : decode cX4_removePaid 22 = .ok (.invokevirtual 35, 3) := by decide +kernel
theorem dX4_removePaid_25 : decode cX4_removePaid 25 = .ok (.iinc 1 (-1), 3) := by decide +kernel
theorem dX4_removePaid_28 : decode cX4_removePaid 28 = .ok (.goto (-21), 3) := by decide +kernel
theorem dX4_removePaid_31 : decode cX4_removePaid 31 = .ok (.return_, 1) := by decide +kernel
theorem dJ9_floorMod_7cf53_0 : decode cJ9_floorMod_7cf53 0 = .ok (.iload_n 0, 1) := by decide +kernel
theorem dJ9_floorMod_7cf53_1 : decode cJ9_floorMod_7cf53 1 = .ok (.iload_n 1, 1) := by decide +kernel
theorem dJ9_floorMod_7cf53_2 : decode cJ9_floorMod_7cf53 2 = .ok (.irem, 1) := by decide +kernel
theorem dJ9_floorMod_7cf53_3 : decode cJ9_floorMod_7cf53 3 = .ok (.istore_n 2, 1) := by decide +kernel
theorem dJ9_floorMod_7cf53_4 : decode cJ9_floorMod_7cf53 4 = .ok (.iload_n 0, 1) := by decide +kernel
theorem dJ9_floorMod_7cf53_5 : decode cJ9_floorMod_7cf53 5 = .ok (.iload_n 1, 1) := by decide +kernel
theorem dJ9_floorMod_7cf53_6 : decode cJ9_floorMod_7cf53 6 = .ok (.ixor, 1) := by decide +kernel
theorem dJ9_floorMod_7cf53_7 : decode cJ9_floorMod_7cf53 7 = .ok (.ifCond .ge 11, 3) := by decide +kernel
theorem dJ9_floorMod_7cf53_10 : decode cJ9_floorMod_7cf53 10 = .ok (.iload_n 2, 1) := by decide +kernel
theorem dJ9_floorMod_7cf53_11 : decode cJ9_floorMod_7cf53 11 = .ok (.ifCond .eq 7, 3) := by decide +kernel
theorem dJ9_floorMod_7cf53_14 : decode cJ9_floorMod_7cf53 14 = .ok (.iload_n 2, 1) := by decide +kernel
theorem dJ9_floorMod_7cf53_15 : decode cJ9_floorMod_7cf53 15 = .ok (.iload_n 1, 1) := by decide +kernel
theorem dJ9_floorMod_7cf53_16 : decode cJ9_floorMod_7cf53 16 = .ok (.iadd, 1) := by decide +kernel
theorem dJ9_floorMod_7cf53_17 : decode cJ9_floorMod_7cf53 17 = .ok (.ireturn, 1) := by decide +kernel
theorem dJ9_floorMod_7cf53_18 : decode cJ9_floorMod_7cf53 18 = .ok (.iload_n 2, 1) := by decide +kernel
theorem dJ9_floorMod_7cf53_19 : decode cJ9_floorMod_7cf53 19 = .ok (.ireturn, 1) := by decide +kernel
theorem dJ9_max_7cf53_0 : decode cJ9_max_7cf53 0 = .ok (.iload_n 0, 1) := by decide +kernel
theorem dJ9_max_7cf53_1 : decode cJ9_max_7cf53 1 = .ok (.iload_n 1, 1) := by decide +kernel
theorem dJ9_max_7cf53_2 : decode cJ9_max_7cf53 2 = .ok (.if_icmp .lt 7, 3) := by decide +kernel
theorem dJ9_max_7cf53_5 : decode cJ9_max_7cf53 5 = .ok (.iload_n 0, 1) := by decide +kernel
theorem dJ9_max_7cf53_6 : decode cJ9_max_7cf53 6 = .ok (.goto 4, 3) := by decide +kernel
theorem dJ9_max_7cf53_9 : decode cJ9_max_7cf53 9 = .ok (.iload_n 1, 1) := by decide +kernel
theorem dJ9_max_7cf53_10 : decode cJ9_max_7cf53 10 = .ok (.ireturn, 1) := by decide +kernel
theorem dJ9_min_7cf53_0 : decode cJ9_min_7cf53 0 = .ok (.iload_n 0, 1) := by decide +kernel
theorem dJ9_min_7cf53_1 : decode cJ9_min_7cf53 1 = .ok (.iload_n 1, 1) := by decide +kernel
theorem dJ9_min_7cf53_2 : decode cJ9_min_7cf53 2 = .ok (.if_icmp .gt 7, 3) := by decide +kernel
theorem dJ9_min_7cf53_5 : decode cJ9_min_7cf53 5 = .ok (.iload_n 0, 1) := by decide +kernel
theorem dJ9_min_7cf53_6 : decode cJ9_min_7cf53 6 = .ok (.goto 4, 3) := by decide +kernel
theorem dJ9_min_7cf53_9 : decode cJ9_min_7cf53 9 = .ok (.iload_n 1, 1) := by decide +kernel
theorem dJ9_min_7cf53_10 : decode cJ9_min_7cf53 10 = .ok (.ireturn, 1) := by decide +kernel
end
section
theorem dX5_init_0 : decode cX5_init 0 = .ok (.aload_n 0, 1) := by decide +kernel
theorem dX5_init_1 : decode cX5_init 1 = .ok (.invokespecial 3, 3) := by decide +kernel
theorem dX5_init_4 : decode cX5_init 4 = .ok (.aload_n 0, 1) := by decide +kernel
theorem dX5_init_5 : decode cX5_init 5 = .ok (.new 9, 3) := by decide +kernel
theorem dX5_init_8 : decode cX5_init 8 = .ok (.dup, 1) := by decide +kernel
theorem dX5_init_9 : decode cX5_init 9 = .ok (.invokespecial 11, 3) := by decide +kernel
theorem dX5_init_12 : decode cX5_init 12 = .ok (.putfield 12, 3) := by decide +kernel
theorem dX5_init_15 : decode cX5_init 15 = .ok (.aload_n 0, 1) := by decide +kernel
theorem dX5_init_16 : decode cX5_init 16 = .ok (.new 18, 3) := by decide +kernel
theorem dX5_init_19 : decode cX5_init 19 = .ok (.dup, 1) := by decide +kernel
theorem dX5_init_20 : decode cX5_init 20 = .ok (.invokespecial 20, 3) := by decide +kernel
theorem dX5_init_23 : decode cX5_init 23 = .ok (.putfield 21, 3) := by decide +kernel
theorem dX5_init_26 : decode cX5_init 26 = .ok (.aload_n 0, 1) := by decide +kernel
theorem dX5_init_27 : decode cX5_init 27 = .ok (.new 25, 3) := by decide +kernel
theorem dX5_init_30 : decode cX5_init 30 = .ok (.dup, 1) := by decide +kernel
theorem dX5_init_31 : decode cX5_init 31 = .ok (.invokespecial 27, 3) := by decide +kernel
theorem dX5_init_34 : decode cX5_init 34 = .ok (.putfield 28, 3) := by decide +kernel
theorem dX5_init_37 : decode cX5_init 37 = .ok (.aload_n 0, 1) := by decide +kernel
theorem dX5_init_38 : decode cX5_init 38 = .ok (.iconst 4, 1) := by decide +kernel
theorem dX5_init_39 : decode cX5_init 39 = .ok (.newarray .int, 2) := by decide +kernel
theorem dX5_init_41 : decode cX5_init 41 = .ok (.putfield 32, 3) := by decide +kernel
theorem dX5_init_44 : decode cX5_init 44 = .ok (.aload_n 0, 1) := by decide +kernel
theorem dX5_init_45 : decode cX5_init 45 = .ok (.bipush 8, 2) := by decide +kernel
theorem dX5_init_47 : decode cX5_init 47 = .ok (.newarray .int, 2) := by decide +kernel
theorem dX5_init_49 : decode cX5_init 49 = .ok (.putfield 36, 3) := by decide +kernel
theorem dX5_init_52 : decode cX5_init 52 = .ok (.aload_n 0, 1) := by decide +kernel
theorem dX5_init_53 : decode cX5_init 53 = .ok (.iconst 3, 1) := by decide +kernel
theorem dX5_init_54 : decode cX5_init 54 = .ok (.newarray .int, 2) := by decide +kernel
theorem dX5_init_56 : decode cX5_init 56 = .ok (.putfield 39, 3) := by decide +kernel
theorem dX5_init_59 : decode cX5_init 59 = .ok (.aload_n 0, 1) := by decide +kernel
theorem dX5_init_60 : decode cX5_init 60 = .ok (.iconst 3, 1) := by decide +kernel
theorem dX5_init_61 : decode cX5_init 61 = .ok (.newarray .int, 2) := by decide +kernel
theorem dX5_init_63 : decode cX5_init 63 = .ok (.putfield 42, 3) := by decide +kernel
theorem dX5_init_66 : decode cX5_init 66 = .ok (.aload_n 0, 1) := by decide +kernel
theorem dX5_init_67 : decode cX5_init 67 = .ok (.bipush 48, 2) := by decide +kernel
theorem dX5_init_69 : decode cX5_init 69 = .ok (.newarray .int, 2) := by decide +kernel
theorem dX5_init_71 : decode cX5_init 71 = .ok (.putfield 45, 3) := by decide +kernel
theorem dX5_init_74 : decode cX5_init 74 = .ok (.aload_n 0, 1) := by decide +kernel
theorem dX5_init_75 : decode cX5_init 75 = .ok (.iconst 1, 1) := by decide +kernel
theorem dX5_init_76 : decode cX5_init 76 = .ok (.putfield 48, 3) := by decide +kernel
theorem dX5_init_79 : decode cX5_init 79 = .ok (.aload_n 0, 1) := by decide +kernel
theorem dX5_init_80 : decode cX5_init 80 = .ok (.iconst 0, 1) := by decide +kernel
theorem dX5_init_81 : decode cX5_init 81 = .ok (.putfield 52, 3) := by decide +kernel
theorem dX5_init_84 : decode cX5_init 84 = .ok (.aload_n 0, 1) := by decide +kernel
theorem dX5_init_85 : decode cX5_init 85 = .ok (.iconst 1, 1) := by decide +kernel
theorem dX5_init_86 : decode cX5_init 86 = .ok (.putfield 55, 3) := by decide +kernel
theorem dX5_init_89 : decode cX5_init 89 = .ok (.aload_n 0, 1) := by decide +kernel
theorem dX5_init_90 : decode cX5_init 90 = .ok (.getfield 32, 3) := by decide +kernel
theorem dX5_init_93 : decode cX5_init 93 = .ok (.iconst 0, 1) := by decide +kernel
theorem dX5_init_94 : decode cX5_init 94 = .ok (.iconst 5, 1) := by decide +kernel
theorem dX5_init_95 : decode cX5_init 95 = .ok (.iastore, 1) := by decide +kernel
theorem dX5_init_96 : decode cX5_init 96 = .ok (.aload_n 0, 1) := by decide +kernel
theorem dX5_init_97 : decode cX5_init 97 = .ok (.getfield 32, 3) := by decide +kernel
theorem dX5_init_100 : decode cX5_init 100 = .ok (.iconst 1, 1) := by decide +kernel
theorem dX5_init_101 : decode cX5_init 101 = .ok (.bipush 40, 2) := by decide +kernel
theorem dX5_init_103 : decode cX5_init 103 = .ok (.iastore, 1) := by decide +kernel
theorem dX5_init_104 : decode cX5_init 104 = .ok (.aload_n 0, 1) := by decide +kernel
theorem dX5_init_105 : decode cX5_init 105 = .ok (.getfield 32, 3) := by decide +kernel
theorem dX5_init_108 : decode cX5_init 108 = .ok (.iconst 2, 1) := by decide +kernel
theorem dX5_init_109 : decode cX5_init 109 = .ok (.bipush 50, 2) := by decide +kernel
theorem dX5_init_111 : decode cX5_init 111 = .ok (.iastore, 1) := by decide +kernel
theorem dX5_init_112 : decode cX5_init 112 = .ok (.aload_n 0, 1) := by decide +kernel
theorem dX5_init_113 : decode cX5_init 113 = .ok (.getfield 32, 3) := by decide +kernel
theorem dX5_init_116 : decode cX5_init 116 = .ok (.iconst 3, 1) := by decide +kernel
theorem dX5_init_117 : decode cX5_init 117 = .ok (.bipush 50, 2) := by decide +kernel
theorem dX5_init_119 : decode cX5_init 119 = .ok (.iastore, 1) := by decide +kernel
theorem dX5_init_120 : decode cX5_init 120 = .ok (.aload_n 0, 1) := by decide +kernel
theorem dX5_init_121 : decode cX5_init 121 = .ok (.getfield 45, 3) := by decide +kernel
theorem dX5_init_124 : decode cX5_init 124 = .ok (.iconst 0, 1) := by decide +kernel
theorem dX5_init_125 : decode cX5_init 125 = .ok (.bipush 20, 2) := by decide +kernel
theorem dX5_init_127 : decode cX5_init 127 = .ok (.iastore, 1) := by decide +kernel
theorem dX5_init_128 : decode cX5_init 128 = .ok (.return_, 1) := by decide +kernel
theorem dX5_copy_0 : decode cX5_copy 0 = .ok (.aload_n 0, 1) := by decide +kernel
theorem dX5_copy_1 : decode cX5_copy 1 = .ok (.getfield 12, 3) := by decide +kernel
theorem dX5_copy_4 : decode cX5_copy 4 = .ok (.aload_n 1, 1) := by decide +kernel
theorem dX5_copy_5 : decode cX5_copy 5 = .ok (.getfield 12, 3) := by decide +kernel
theorem dX5_copy_8 : decode cX5_copy 8 = .ok (.invokevirtual 58, 3) := by decide +kernel
theorem dX5_copy_11 : decode cX5_copy 11 = .ok (.aload_n 0, 1) := by decide +kernel
theorem dX5_copy_12 : decode cX5_copy 12 = .ok (.getfield 21, 3) := by decide +kernel
theorem dX5_copy_15 : decode cX5_copy 15 = .ok (.aload_n 1, 1) := by decide +kernel
theorem dX5_copy_16 : decode cX5_copy 16 = .ok (.getfield 21, 3) := by decide +kernel
theorem dX5_copy_19 : decode cX5_copy 19 = .ok (.invokevirtual 62, 3) := by decide +kernel
theorem dX5_copy_22 : decode cX5_copy 22 = .ok (.aload_n 0, 1) := by decide +kernel
theorem dX5_copy_23 : decode cX5_copy 23 = .ok (.getfield 28, 3) := by decide +kernel
theorem dX5_copy_26 : decode cX5_copy 26 = .ok (.aload_n 1, 1) := by decide +kernel
theorem dX5_copy_27 : decode cX5_copy 27 = .ok (.getfield 28, 3) := by decide +kernel
theorem dX5_copy_30 : decode cX5_copy 30 = .ok (.invokevirtual 65, 3) := by decide +kernel
theorem dX5_copy_33 : decode cX5_copy 33 = .ok (.aload_n 1, 1) := by decide +kernel
theorem dX5_copy_34 : decode cX5_copy 34 = .ok (.getfield 32, 3) := by decide +kernel
theorem dX5_copy_37 : decode cX5_copy 37 = .ok (.iconst 0, 1) := by decide +kernel
theorem dX5_copy_38 : decode cX5_copy 38 = .ok (.aload_n 0, 1) := by decide +kernel
theorem dX5_copy_39 : decode cX5_copy 39 = .ok (.getfield 32, 3) := by decide +kernel
theorem dX5_copy_42 : decode cX5_copy 42 = .ok (.iconst 0, 1) := by decide +kernel
theorem dX5_copy_43 : decode cX5_copy 43 = .ok (.iconst 4, 1) := by decide +kernel
theorem dX5_copy_44 : decode cX5_copy 44 = .ok (.invokestatic 68, 3) := by decide +kernel
theorem dX5_copy_47 : decode cX5_copy 47 = .ok (.aload_n 1, 1) := by decide +kernel
theorem dX5_copy_48 : decode cX5_copy 48 = .ok (.getfield 36, 3) := by decide +kernel
theorem dX5_copy_51 : decode cX5_copy 51 = .ok (.iconst 0, 1) := by decide +kernel
theorem dX5_copy_52 : decode cX5_copy 52 = .ok (.aload_n 0, 1) := by decide +kernel
theorem dX5_copy_53 : decode cX5_copy 53 = .ok (.getfield 36, 3) := by decide +kernel
theorem dX5_copy_56 : decode cX5_copy 56 = .ok (.iconst 0, 1) := by decide +kernel
theorem dX5_copy_57 : decode cX5_copy 57 = .ok (.bipush 8, 2) := by decide +kernel
theorem dX5_copy_59 : decode cX5_copy 59 = .ok (.invokestatic 68, 3) := by decide +kernel
theorem dX5_copy_62 : decode cX5_copy 62 = .ok (.aload_n 1, 1) := by decide +kernel
theorem dX5_copy_63 : decode cX5_copy 63 = .ok (.getfield 39, 3) := by decide +kernel
theorem dX5_copy_66 : decode cX5_copy 66 = .ok (.iconst 0, 1) := by decide +kernel
theorem dX5_copy_67 : decode cX5_copy 67 = .ok (.aload_n 0, 1) := by decide +kernel
theorem dX5_copy_68 : decode cX5_copy 68 = .ok (.getfield 39, 3) := by decide +kernel
theorem dX5_copy_71 : decode cX5_copy 71 = .ok (.iconst 0, 1) := by decide +kernel
theorem dX5_copy_72 : decode cX5_copy 72 = .ok (.iconst 3, 1) := by decide +kernel
theorem dX5_copy_73 : decode cX5_copy 73 = .ok (.invokestatic 68, 3) := by decide +kernel
theorem dX5_copy_76 : decode cX5_copy 76 = .ok (.aload_n 1, 1) := by decide +kernel
theorem dX5_copy_77 : decode cX5_copy 77 = .ok (.getfield 42, 3) := by decide +kernel
theorem dX5_copy_80 : decode cX5_copy 80 = .ok (.iconst 0, 1) := by decide +kernel
theorem dX5_copy_81 : decode cX5_copy 81 = .ok (.aload_n 0, 1) := by decide +kernel
theorem dX5_copy_82 : decode cX5_copy 82 = .ok (.getfield 42, 3) := by decide +kernel
theorem dX5_copy_85 : decode cX5_copy 85 = .ok (.iconst 0, 1) := by decide +kernel
theorem dX5_copy_86 : decode cX5_copy 86 = .ok (.iconst 3, 1) := by decide +kernel
theorem dX5_copy_87 : decode cX5_copy 87 = .ok (.invokestatic 68, 3) := by decide +kernel
theorem dX5_copy_90 : decode cX5_copy 90 = .ok (.aload_n 0, 1) := by decide +kernel
theorem dX5_copy_91 : decode cX5_copy 91 = .ok (.aload_n 1, 1) := by decide +kernel
theorem dX5_copy_92 : decode cX5_copy 92 = .ok (.getfield 45, 3) := by decide +kernel
theorem dX5_copy_95 : decode cX5_copy 95 = .ok (.aload_n 1, 1) := by decide +kernel
theorem dX5_copy_96 : decode cX5_copy 96 = .ok (.getfield 48, 3) := by decide +kernel
theorem dX5_copy_99 : decode cX5_copy 99 = .ok (.invokevirtual 74, 3) := by decide +kernel
theorem dX5_copy_102 : decode cX5_copy 102 = .ok (.aload_n 0, 1) := by decide +kernel
theorem dX5_copy_103 : decode cX5_copy 103 = .ok (.aload_n 1, 1) := by decide +kernel
theorem dX5_copy_104 : decode cX5_copy 104 = .ok (.getfield 52, 3) := by decide +kernel
theorem dX5_copy_107 : decode cX5_copy 107 = .ok (.putfield 52, 3) := by decide +kernel
theorem dX5_copy_110 : decode cX5_copy 110 = .ok (.aload_n 0, 1) := by decide +kernel
theorem dX5_copy_111 : decode cX5_copy 111 = .ok (.aload_n 1, 1) := by decide +kernel
theorem dX5_copy_112 : decode cX5_copy 112 = .ok (.getfield 55, 3) := by decide +kernel
theorem dX5_copy_115 : decode cX5_copy 115 = .ok (.putfield 55, 3) := by decide +kernel
theorem dX5_copy_118 : decode cX5_copy 118 = .ok (.return_, 1) := by decide +kernel
theorem dX5_takeList_0 : decode cX5_takeList 0 = .ok (.aload_n 1, 1) := by decide +kernel
theorem dX5_takeList_1 : decode cX5_takeList 1 = .ok (.iconst 0, 1) := by decide +kernel
theorem dX5_takeList_2 : decode cX5_takeList 2 = .ok (.aload_n 0, 1) := by decide +kernel
theorem dX5_takeList_3 : decode cX5_takeList 3 = .ok (.getfield 45, 3) := by decide +kernel
theorem dX5_takeList_6 : decode cX5_takeList 6 = .ok (.iconst 0, 1) := by decide +kernel
theorem dX5_takeList_7 : decode cX5_takeList 7 = .ok (.bipush 48, 2) := by decide +kernel
theorem dX5_takeList_9 : decode cX5_takeList 9 = .ok (.invokestatic 68, 3) := by decide +kernel
theorem dX5_takeList_12 : decode cX5_takeList 12 = .ok (.aload_n 0, 1) := by decide +kernel
theorem dX5_takeList_13 : decode cX5_takeList 13 = .ok (.iload_n 2, 1) := by decide +kernel
theorem dX5_takeList_14 : decode cX5_takeList 14 = .ok (.putfield 48, 3) := by decide +kernel
theorem dX5_takeList_17 : decode cX5_takeList 17 = .ok (.return_, 1) := by decide +kernel
theorem dX5_supplyOf_0 : decode cX5_supplyOf 0 = .ok (.aload_n 0, 1) := by decide +kernel
theorem dX5_supplyOf_1 : decode cX5_supplyOf 1 = .ok (.getfield 48, 3) := by decide +kernel
theorem dX5_supplyOf_4 : decode cX5_supplyOf 4 = .ok (.ifCond .le 19, 3) := by decide +kernel
theorem dX5_supplyOf_7 : decode cX5_supplyOf 7 = .ok (.aload_n 0, 1) := by decide +kernel
theorem dX5_supplyOf_8 : decode cX5_supplyOf 8 = .ok (.getfield 45, 3) := by decide +kernel
theorem dX5_supplyOf_11 : decode cX5_supplyOf 11 = .ok (.iload_n 1, 1) := by decide +kernel
theorem dX5_supplyOf_12 : decode cX5_supplyOf 12 = .ok (.aload_n 0, 1) := by decide +kernel
theorem dX5_supplyOf_13 : decode cX5_supplyOf 13 = .ok (.getfield 48, 3) := by decide +kernel
theorem dX5_supplyOf_16 : decode cX5_supplyOf 16 = .ok (.invokestatic 78, 3) := by decide +kernel
theorem dX5_supplyOf_19 : decode cX5_supplyOf 19 = .ok (.iaload, 1) := by decide +kernel
theorem dX5_supplyOf_20 : decode cX5_supplyOf 20 = .ok (.goto 4, 3) := by decide +kernel
theorem dX5_supplyOf_23 : decode cX5_supplyOf 23 = .ok (.iconst 0, 1) := by decide +kernel
theorem dX5_supplyOf_24 : decode cX5_supplyOf 24 = .ok (.ireturn, 1) := by decide +kernel
theorem dX5_partForDebt_0 : decode cX5_partForDebt 0 = .ok (.aload_n 0, 1) := by decide +kernel
theorem dX5_partForDebt_1 : decode cX5_partForDebt 1 = .ok (.getfield 12, 3) := by decide +kernel
theorem dX5_partForDebt_4 : decode cX5_partForDebt 4 = .ok (.getfield 84, 3) := by decide +kernel
theorem dX5_partForDebt_7 : decode cX5_partForDebt 7 = .ok (.iload_n 1, 1) := by decide +kernel
theorem dX5_partForDebt_8 : decode cX5_partForDebt 8 = .ok (.iaload, 1) := by decide +kernel
theorem dX5_partForDebt_9 : decode cX5_partForDebt 9 = .ok (.iload_n 2, 1) := by decide +kernel
theorem dX5_partForDebt_10 : decode cX5_partForDebt 10 = .ok (.aload_n 0, 1) := by decide +kernel
theorem dX5_partForDebt_11 : decode cX5_partForDebt 11 = .ok (.getfield 32, 3) := by decide +kernel
theorem dX5_partForDebt_14 : decode cX5_partForDebt 14 = .ok (.iconst 1, 1) := by decide +kernel
theorem dX5_partForDebt_15 : decode cX5_partForDebt 15 = .ok (.iaload, 1) := by decide +kernel
theorem dX5_partForDebt_16 : decode cX5_partForDebt 16 = .ok (.imul, 1) := by decide +kernel
theorem dX5_partForDebt_17 : decode cX5_partForDebt 17 = .ok (.bipush 100, 2) := by decide +kernel
theorem dX5_partForDebt_19 : decode cX5_partForDebt 19 = .ok (.idiv, 1) := by decide +kernel
theorem dX5_partForDebt_20 : decode cX5_partForDebt 20 = .ok (.invokestatic 87, 3) := by decide +kernel
theorem dX5_partForDebt_23 : decode cX5_partForDebt 23 = .ok (.ireturn, 1) := by decide +kernel
theorem dX5_partForLoans_0 : decode cX5_partForLoans 0 = .ok (.iload_n 2, 1) := by decide +kernel
theorem dX5_partForLoans_1 : decode cX5_partForLoans 1 = .ok (.aload_n 0, 1) := by decide +kernel
theorem dX5_partForLoans_2 : decode cX5_partForLoans 2 = .ok (.iload_n 1, 1) := by decide +kernel
theorem dX5_partForLoans_3 : decode cX5_partForLoans 3 = .ok (.iload_n 2, 1) := by decide +kernel
theorem dX5_partForLoans_4 : decode cX5_partForLoans 4 = .ok (.invokevirtual 90, 3) := by decide +kernel
theorem dX5_partForLoans_7 : decode cX5_partForLoans 7 = .ok (.isub, 1) := by decide +kernel
theorem dX5_partForLoans_8 : decode cX5_partForLoans 8 = .ok (.istore_n 3, 1) := by decide +kernel
theorem dX5_partForLoans_9 : decode cX5_partForLoans 9 = .ok (.aload_n 0, 1) := by decide +kernel
theorem dX5_partForLoans_10 : decode cX5_partForLoans 10 = .ok (.getfield 21, 3) := by decide +kernel
theorem dX5_partForLoans_13 : decode cX5_partForLoans 13 = .ok (.iload_n 1, 1) := by decide +kernel
theorem dX5_partForLoans_14 : decode cX5_partForLoans 14 = .ok (.invokevirtual 93, 3) := by decide +kernel
theorem dX5_partForLoans_17 : decode cX5_partForLoans 17 = .ok (.iload_n 3, 1) := by decide +kernel
theorem dX5_partForLoans_18 : decode cX5_partForLoans 18 = .ok (.aload_n 0, 1) := by decide +kernel
theorem dX5_partForLoans_19 : decode cX5_partForLoans 19 = .ok (.getfield 32, 3) := by decide +kernel
theorem dX5_partForLoans_22 : decode cX5_partForLoans 22 = .ok (.iconst 2, 1) := by decide +kernel
theorem dX5_partForLoans_23 : decode cX5_partForLoans 23 = .ok (.iaload, 1) := by decide +kernel
theorem dX5_partForLoans_24 : decode cX5_partForLoans 24 = .ok (.imul, 1) := by decide +kernel
theorem dX5_partForLoans_25 : decode cX5_partForLoans 25 = .ok (.bipush 100, 2) := by decide +kernel
theorem dX5_partForLoans_27 : decode cX5_partForLoans 27 = .ok (.idiv, 1) := by decide +kernel
theorem dX5_partForLoans_28 : decode cX5_partForLoans 28 = .ok (.invokestatic 87, 3) := by decide +kernel
theorem dX5_partForLoans_31 : decode cX5_partForLoans 31 = .ok (.ireturn, 1) := by decide +kernel
theorem dX5_takeToken_0 : decode cX5_takeToken 0 = .ok (.aload_n 0, 1) := by decide +kernel
theorem dX5_takeToken_1 : decode cX5_takeToken 1 = .ok (.iload_n 1, 1) := by decide +kernel
theorem dX5_takeToken_2 : decode cX5_takeToken 2 = .ok (.iload_n 2, 1) := by decide +kernel
theorem dX5_takeToken_3 : decode cX5_takeToken 3 = .ok (.invokevirtual 90, 3) := by decide +kernel
theorem dX5_takeToken_6 : decode cX5_takeToken 6 = .ok (.istore_n 3, 1) := by decide +kernel
theorem dX5_takeToken_7 : decode cX5_takeToken 7 = .ok (.aload_n 0, 1) := by decide +kernel
theorem dX5_takeToken_8 : decode cX5_takeToken 8 = .ok (.iload_n 1, 1) := by decide +kernel
theorem dX5_takeToken_9 : decode cX5_takeToken 9 = .ok (.iload_n 2, 1) := by decide +kernel
theorem dX5_takeToken_10 : decode cX5_takeToken 10 = .ok (.invokevirtual 97, 3) := by decide +kernel
theorem dX5_takeToken_13 : decode cX5_takeToken 13 = .ok (.istore 4, 2) := by decide +kernel
theorem dX5_takeToken_15 : decode cX5_takeToken 15 = .ok (.aload_n 0, 1) := by decide +kernel
theorem dX5_takeToken_16 : decode cX5_takeToken 16 = .ok (.getfield 12, 3) := by decide +kernel
theorem dX5_takeToken_19 : decode cX5_takeToken 19 = .ok (.getfield 84, 3) := by decide +kernel
theorem dX5_takeToken_22 : decode cX5_takeToken 22 = .ok (.iload_n 1, 1) := by decide +kernel
theorem dX5_takeToken_23 : decode cX5_takeToken 23 = .ok (.dup2, 1) := by decide +kernel
theorem dX5_takeToken_24 : decode cX5_takeToken 24 = .ok (.iaload, 1) := by decide +kernel
theorem dX5_takeToken_25 : decode cX5_takeToken 25 = .ok (.iload_n 3, 1) := by decide +kernel
theorem dX5_takeToken_26 : decode cX5_takeToken 26 = .ok (.isub, 1) := by decide +kernel
theorem dX5_takeToken_27 : decode cX5_takeToken 27 = .ok (.iastore, 1) := by decide +kernel
theorem dX5_takeToken_28 : decode cX5_takeToken 28 = .ok (.aload_n 0, 1) := by decide +kernel
theorem dX5_takeToken_29 : decode cX5_takeToken 29 = .ok (.iload_n 1, 1) := by decide +kernel
theorem dX5_takeToken_30 : decode cX5_takeToken 30 = .ok (.iload 4, 2) := by decide +kernel
theorem dX5_takeToken_32 : decode cX5_takeToken 32 = .ok (.invokevirtual 100, 3) := by decide +kernel
theorem dX5_takeToken_35 : decode cX5_takeToken 35 = .ok (.aload_n 0, 1) := by decide +kernel
theorem dX5_takeToken_36 : decode cX5_takeToken 36 = .ok (.getfield 12, 3) := by decide +kernel
theorem dX5_takeToken_39 : decode cX5_takeToken 39 = .ok (.getfield 104, 3) := by decide +kernel
theorem dX5_takeToken_42 : decode cX5_takeToken 42 = .ok (.iload_n 1, 1) := by decide +kernel
theorem dX5_takeToken_43 : decode cX5_takeToken 43 = .ok (.dup2, 1) := by decide +kernel
theorem dX5_takeToken_44 : decode cX5_takeToken 44 = .ok (.iaload, 1) := by decide +kernel
theorem dX5_takeToken_45 : decode cX5_takeToken 45 = .ok (.iload_n 2, 1) := by decide +kernel
theorem dX5_takeToken_46 : decode cX5_takeToken 46 = .ok (.iload_n 3, 1) := by decide +kernel
theorem dX5_takeToken_47 : decode cX5_takeToken 47 = .ok (.isub, 1) := by decide +kernel
theorem dX5_takeToken_48 : decode cX5_takeToken 48 = .ok (.iload 4, 2) := by decide +kernel
theorem dX5_takeToken_50 : decode cX5_takeToken 50 = .ok (.isub, 1) := by decide +kernel
theorem dX5_takeToken_51 : decode cX5_takeToken 51 = .ok (.iadd, 1) := by decide +kernel
theorem dX5_takeToken_52 : decode cX5_takeToken 52 = .ok (.iastore, 1) := by decide +kernel
theorem dX5_takeToken_53 : decode cX5_takeToken 53 = .ok (.aload_n 0, 1) := by decide +kernel
theorem dX5_takeToken_54 : decode cX5_takeToken 54 = .ok (.getfield 36, 3) := by decide +kernel
theorem dX5_takeToken_57 : decode cX5_takeToken 57 = .ok (.bipush 6, 2) := by decide +kernel
theorem dX5_takeToken_59 : decode cX5_takeToken 59 = .ok (.dup2, 1) := by decide +kernel
theorem dX5_takeToken_60 : decode cX5_takeToken 60 = .ok (.iaload, 1) := by decide +kernel
theorem dX5_takeToken_61 : decode cX5_takeToken 61 = .ok (.iload_n 2, 1) := by decide +kernel
theorem dX5_takeToken_62 : decode cX5_takeToken 62 = .ok (.iadd, 1) := by decide +kernel
theorem dX5_takeToken_63 : decode cX5_takeToken 63 = .ok (.iastore, 1) := by decide +kernel
theorem dX5_takeToken_64 : decode cX5_takeToken 64 = .ok (.aload_n 0, 1) := by decide +kernel
theorem dX5_takeToken_65 : decode cX5_takeToken 65 = .ok (.getfield 36, 3) := by decide +kernel
theorem dX5_takeToken_68 : decode cX5_takeToken 68 = .ok (.bipush 7, 2) := by decide +kernel
theorem dX5_takeToken_70 : decode cX5_takeToken 70 = .ok (.dup2, 1) := by decide +kernel
theorem dX5_takeToken_71 : decode cX5_takeToken 71 = .ok (.iaload, 1) := by decide +kernel
theorem dX5_takeToken_72 : decode cX5_takeToken 72 = .ok (.iload_n 3, 1) := by decide +kernel
theorem dX5_takeToken_73 : decode cX5_takeToken 73 = .ok (.iadd, 1) := by decide +kernel
theorem dX5_takeToken_74 : decode cX5_takeToken 74 = .ok (.iastore, 1) := by decide +kernel
theorem dX5_takeToken_75 : decode cX5_takeToken 75 = .ok (.return_, 1) := by decide +kernel
theorem dX5_payLoans_0 : decode cX5_payLoans 0 = .ok (.iload_n 2, 1) := by decide +kernel
theorem dX5_payLoans_1 : decode cX5_payLoans 1 = .ok (.istore_n 3, 1) := by decide +kernel
theorem dX5_payLoans_2 : decode cX5_payLoans 2 = .ok (.iconst 0, 1) := by decide +kernel
theorem dX5_payLoans_3 : decode cX5_payLoans 3 = .ok (.istore 4, 2) := by decide +kernel
theorem dX5_payLoans_5 : decode cX5_payLoans 5 = .ok (.iload 4, 2) := by decide +kernel
theorem dX5_payLoans_7 : decode cX5_payLoans 7 = .ok (.aload_n 0, 1) := by decide +kernel
theorem dX5_payLoans_8 : decode cX5_payLoans 8 = .ok (.getfield 21, 3) := by decide +kernel
theorem dX5_payLoans_11 : decode cX5_payLoans 11 = .ok (.getfield 107, 3) := by decide +kernel
theorem dX5_payLoans_14 : decode cX5_payLoans 14 = .ok (.if_icmp .ge 82, 3) := by decide +kernel
theorem dX5_payLoans_17 : decode cX5_payLoans 17 = .ok (.aload_n 0, 1) := by decide +kernel
theorem dX5_payLoans_18 : decode cX5_payLoans 18 = .ok (.getfield 21, 3) := by decide +kernel
theorem dX5_payLoans_21 : decode cX5_payLoans 21 = .ok (.getfield 110, 3) := by decide +kernel
theorem dX5_payLoans_24 : decode cX5_payLoans 24 = .ok (.iload 4, 2) := by decide +kernel
theorem dX5_payLoans_26 : decode cX5_payLoans 26 = .ok (.iaload, 1) := by decide +kernel
theorem dX5_payLoans_27 : decode cX5_payLoans 27 = .ok (.iload_n 1, 1) := by decide +kernel
theorem dX5_payLoans_28 : decode cX5_payLoans 28 = .ok (.if_icmp .ne 62, 3) := by decide +kernel
theorem dX5_payLoans_31 : decode cX5_payLoans 31 = .ok (.iload_n 3, 1) := by decide +kernel
theorem dX5_payLoans_32 : decode cX5_payLoans 32 = .ok (.aload_n 0, 1) := by decide +kernel
theorem dX5_payLoans_33 : decode cX5_payLoans 33 = .ok (.getfield 21, 3) := by decide +kernel
theorem dX5_payLoans_36 : decode cX5_payLoans 36 = .ok (.getfield 113, 3) := by decide +kernel
theorem dX5_payLoans_39 : decode cX5_payLoans 39 = .ok (.iload 4, 2) := by decide +kernel
theorem dX5_payLoans_41 : decode cX5_payLoans 41 = .ok (.iaload, 1) := by decide +kernel
theorem dX5_payLoans_42 : decode cX5_payLoans 42 = .ok (.invokestatic 87, 3) := by decide +kernel
theorem dX5_payLoans_45 : decode cX5_payLoans 45 = .ok (.istore 5, 2) := by decide +kernel
theorem dX5_payLoans_47 : decode cX5_payLoans 47 = .ok (.aload_n 0, 1) := by decide +kernel
theorem dX5_payLoans_48 : decode cX5_payLoans 48 = .ok (.getfield 21, 3) := by decide +kernel
theorem dX5_payLoans_51 : decode cX5_payLoans 51 = .ok (.getfield 113, 3) := by decide +kernel
theorem dX5_payLoans_54 : decode cX5_payLoans 54 = .ok (.iload 4, 2) := by decide +kernel
theorem dX5_payLoans_56 : decode cX5_payLoans 56 = .ok (.dup2, 1) := by decide +kernel
theorem dX5_payLoans_57 : decode cX5_payLoans 57 = .ok (.iaload, 1) := by decide +kernel
theorem dX5_payLoans_58 : decode cX5_payLoans 58 = .ok (.iload 5, 2) := by decide +kernel
theorem dX5_payLoans_60 : decode cX5_payLoans 60 = .ok (.isub, 1) := by decide +kernel
theorem dX5_payLoans_61 : decode cX5_payLoans 61 = .ok (.iastore, 1) := by decide +kernel
theorem dX5_payLoans_62 : decode cX5_payLoans 62 = .ok (.aload_n 0, 1) := by decide +kernel
theorem dX5_payLoans_63 : decode cX5_payLoans 63 = .ok (.getfield 12, 3) := by decide +kernel
theorem dX5_payLoans_66 : decode cX5_payLoans 66 = .ok (.getfield 104, 3) := by decide +kernel
theorem dX5_payLoans_69 : decode cX5_payLoans 69 = .ok (.aload_n 0, 1) := by decide +kernel
theorem dX5_payLoans_70 : decode cX5_payLoans 70 = .ok (.getfield 21, 3) := by decide +kernel
theorem dX5_payLoans_73 : decode cX5_payLoans 73 = .ok (.getfield 116, 3) := by decide +kernel
theorem dX5_payLoans_76 : decode cX5_payLoans 76 = .ok (.iload 4, 2) := by decide +kernel
theorem dX5_payLoans_78 : decode cX5_payLoans 78 = .ok (.iaload, 1) := by decide +kernel
theorem dX5_payLoans_79 : decode cX5_payLoans 79 = .ok (.dup2, 1) := by decide +kernel
theorem dX5_payLoans_80 : decode cX5_payLoans 80 = .ok (.iaload, 1) := by decide +kernel
theorem dX5_payLoans_81 : decode cX5_payLoans 81 = .ok (.iload 5, 2) := by decide +kernel
theorem dX5_payLoans_83 : decode cX5_payLoans 83 = .ok (.iadd, 1) := by decide +kernel
theorem dX5_payLoans_84 : decode cX5_payLoans 84 = .ok (.iastore, 1) := by decide +kernel
theorem dX5_payLoans_85 : decode cX5_payLoans 85 = .ok (.iload_n 3, 1) := by decide +kernel
theorem dX5_payLoans_86 : decode cX5_payLoans 86 = .ok (.iload 5, 2) := by decide +kernel
theorem dX5_payLoans_88 : decode cX5_payLoans 88 = .ok (.isub, 1) := by decide +kernel
theorem dX5_payLoans_89 : decode cX5_payLoans 89 = .ok (.istore_n 3, 1) := by decide +kernel
theorem dX5_payLoans_90 : decode cX5_payLoans 90 = .ok (.iinc 4 1, 3) := by decide +kernel
theorem dX5_payLoans_93 : decode cX5_payLoans 93 = .ok (.goto (-88), 3) := by decide +kernel
theorem dX5_payLoans_96 : decode cX5_payLoans 96 = .ok (.aload_n 0, 1) := by decide +kernel
theorem dX5_payLoans_97 : decode cX5_payLoans 97 = .ok (.getfield 21, 3) := by decide +kernel
theorem dX5_payLoans_100 : decode cX5_payLoans 100 = .ok (.invokevirtual 119, 3) := by decide +kernel
theorem dX5_payLoans_103 : decode cX5_payLoans 103 = .ok (.return_, 1) := by decide +kernel
theorem dX5_passHours_0 : decode cX5_passHours 0 = .ok (.iconst 0, 1) := by decide +kernel
theorem dX5_passHours_1 : decode cX5_passHours 1 = .ok (.istore_n 2, 1) := by decide +kernel
theorem dX5_passHours_2 : decode cX5_passHours 2 = .ok (.iload_n 2, 1) := by decide +kernel
theorem dX5_passHours_3 : decode cX5_passHours 3 = .ok (.iload_n 1, 1) := by decide +kernel
theorem dX5_passHours_4 : decode cX5_passHours 4 = .ok (.if_icmp .ge 13, 3) := by decide +kernel
theorem dX5_passHours_7 : decode cX5_passHours 7 = .ok (.aload_n 0, 1) := by decide +kernel
theorem dX5_passHours_8 : decode cX5_passHours 8 = .ok (.invokevirtual 125, 3) := by decide +kernel
theorem dX5_passHours_11 : decode cX5_passHours 11 = .ok (.iinc 2 1, 3) := by decide +kernel
theorem dX5_passHours_14 : decode cX5_passHours 14 = .ok (.goto (-12), 3) := by decide +kernel
theorem dX5_passHours_17 : decode cX5_passHours 17 = .ok (.return_, 1) := by decide +kernel
theorem dX5_passHour_0 : decode cX5_passHour 0 = .ok (.aload_n 0, 1) := by decide +kernel
theorem dX5_passHour_1 : decode cX5_passHour 1 = .ok (.aload_n 0, 1) := by decide +kernel
theorem dX5_passHour_2 : decode cX5_passHour 2 = .ok (.getfield 52, 3) := by decide +kernel
theorem dX5_passHour_5 : decode cX5_passHour 5 = .ok (.invokevirtual 131, 3) := by decide +kernel
theorem dX5_passHour_8 : decode cX5_passHour 8 = .ok (.istore_n 1, 1) := by decide +kernel
theorem dX5_passHour_9 : decode cX5_passHour 9 = .ok (.iload_n 1, 1) := by decide +kernel
theorem dX5_passHour_10 : decode cX5_passHour 10 = .ok (.aload_n 0, 1) := by decide +kernel
theorem dX5_passHour_11 : decode cX5_passHour 11 = .ok (.getfield 28, 3) := by decide +kernel
theorem dX5_passHour_14 : decode cX5_passHour 14 = .ok (.invokevirtual 134, 3) := by decide +kernel
theorem dX5_passHour_17 : decode cX5_passHour 17 = .ok (.iadd, 1) := by decide +kernel
theorem dX5_passHour_18 : decode cX5_passHour 18 = .ok (.istore_n 2, 1) := by decide +kernel
theorem dX5_passHour_19 : decode cX5_passHour 19 = .ok (.aload_n 0, 1) := by decide +kernel
theorem dX5_passHour_20 : decode cX5_passHour 20 = .ok (.getfield 12, 3) := by decide +kernel
theorem dX5_passHour_23 : decode cX5_passHour 23 = .ok (.aload_n 0, 1) := by decide +kernel
theorem dX5_passHour_24 : decode cX5_passHour 24 = .ok (.getfield 32, 3) := by decide +kernel
theorem dX5_passHour_27 : decode cX5_passHour 27 = .ok (.iconst 0, 1) := by decide +kernel
theorem dX5_passHour_28 : decode cX5_passHour 28 = .ok (.iaload, 1) := by decide +kernel
theorem dX5_passHour_29 : decode cX5_passHour 29 = .ok (.invokevirtual 138, 3) := by decide +kernel
theorem dX5_passHour_32 : decode cX5_passHour 32 = .ok (.aload_n 0, 1) := by decide +kernel
theorem dX5_passHour_33 : decode cX5_passHour 33 = .ok (.iload_n 2, 1) := by decide +kernel
theorem dX5_passHour_34 : decode cX5_passHour 34 = .ok (.invokevirtual 142, 3) := by decide +kernel
theorem dX5_passHour_37 : decode cX5_passHour 37 = .ok (.aload_n 0, 1) := by decide +kernel
theorem dX5_passHour_38 : decode cX5_passHour 38 = .ok (.iload_n 2, 1) := by decide +kernel
theorem dX5_passHour_39 : decode cX5_passHour 39 = .ok (.invokevirtual 145, 3) := by decide +kernel
theorem dX5_passHour_42 : decode cX5_passHour 42 = .ok (.istore_n 3, 1) := by decide +kernel
theorem dX5_passHour_43 : decode cX5_passHour 43 = .ok (.aload_n 0, 1) := by decide +kernel
theorem dX5_passHour_44 : decode cX5_passHour 44 = .ok (.getfield 36, 3) := by decide +kernel
theorem dX5_passHour_47 : decode cX5_passHour 47 = .ok (.iconst 0, 1) := by decide +kernel
theorem dX5_passHour_48 : decode cX5_passHour 48 = .ok (.dup2, 1) := by decide +kernel
theorem dX5_passHour_49 : decode cX5_passHour 49 = .ok (.iaload, 1) := by decide +kernel
theorem dX5_passHour_50 : decode cX5_passHour 50 = .ok (.iload_n 1, 1) := by decide +kernel
theorem dX5_passHour_51 : decode cX5_passHour 51 = .ok (.iadd, 1) := by decide +kernel
theorem dX5_passHour_52 : decode cX5_passHour 52 = .ok (.iastore, 1) := by decide +kernel
theorem dX5_passHour_53 : decode cX5_passHour 53 = .ok (.aload_n 0, 1) := by decide +kernel
theorem dX5_passHour_54 : decode cX5_passHour 54 = .ok (.getfield 36, 3) := by decide +kernel
theorem dX5_passHour_57 : decode cX5_passHour 57 = .ok (.iconst 1, 1) := by decide +kernel
theorem dX5_passHour_58 : decode cX5_passHour 58 = .ok (.dup2, 1) := by decide +kernel
theorem dX5_passHour_59 : decode cX5_passHour 59 = .ok (.iaload, 1) := by decide +kernel
theorem dX5_passHour_60 : decode cX5_passHour 60 = .ok (.iload_n 3, 1) := by decide +kernel
theorem dX5_passHour_61 : decode cX5_passHour 61 = .ok (.iadd, 1) := by decide +kernel
theorem dX5_passHour_62 : decode cX5_passHour 62 = .ok (.iastore, 1) := by decide +kernel
theorem dX5_passHour_63 : decode cX5_passHour 63 = .ok (.iload_n 3, 1) := by decide +kernel
theorem dX5_passHour_64 : decode cX5_passHour 64 = .ok (.iload_n 1, 1) := by decide +kernel
theorem dX5_passHour_65 : decode cX5_passHour 65 = .ok (.if_icmp .le 16, 3) := by decide +kernel
theorem dX5_passHour_68 : decode cX5_passHour 68 = .ok (.aload_n 0, 1) := by decide +kernel
theorem dX5_passHour_69 : decode cX5_passHour 69 = .ok (.getfield 28, 3) := by decide +kernel
theorem dX5_passHour_72 : decode cX5_passHour 72 = .ok (.iload_n 3, 1) := by decide +kernel
theorem dX5_passHour_73 : decode cX5_passHour 73 = .ok (.iload_n 1, 1) := by decide +kernel
theorem dX5_passHour_74 : decode cX5_passHour 74 = .ok (.isub, 1) := by decide +kernel
theorem dX5_passHour_75 : decode cX5_passHour 75 = .ok (.invokevirtual 148, 3) := by decide +kernel
theorem dX5_passHour_78 : decode cX5_passHour 78 = .ok (.goto 10, 3) := by decide +kernel
theorem dX5_passHour_81 : decode cX5_passHour 81 = .ok (.aload_n 0, 1) := by decide +kernel
theorem dX5_passHour_82 : decode cX5_passHour 82 = .ok (.iload_n 1, 1) := by decide +kernel
theorem dX5_passHour_83 : decode cX5_passHour 83 = .ok (.iload_n 3, 1) := by decide +kernel
theorem dX5_passHour_84 : decode cX5_passHour 84 = .ok (.isub, 1) := by decide +kernel
theorem dX5_passHour_85 : decode cX5_passHour 85 = .ok (.invokevirtual 151, 3) := by decide +kernel
theorem dX5_passHour_88 : decode cX5_passHour 88 = .ok (.aload_n 0, 1) := by decide +kernel
theorem dX5_passHour_89 : decode cX5_passHour 89 = .ok (.dup, 1) := by decide +kernel
theorem dX5_passHour_90 : decode cX5_passHour 90 = .ok (.getfield 52, 3) := by decide +kernel
theorem dX5_passHour_93 : decode cX5_passHour 93 = .ok (.iconst 1, 1) := by decide +kernel
theorem dX5_passHour_94 : decode cX5_passHour 94 = .ok (.iadd, 1) := by decide +kernel
theorem dX5_passHour_95 : decode cX5_passHour 95 = .ok (.putfield 52, 3) := by decide +kernel
theorem dX5_passHour_98 : decode cX5_passHour 98 = .ok (.return_, 1) := by decide +kernel
theorem dX5_shed_0 : decode cX5_shed 0 = .ok (.iconst 0, 1) := by decide +kernel
theorem dX5_shed_1 : decode cX5_shed 1 = .ok (.istore_n 2, 1) := by decide +kernel
theorem dX5_shed_2 : decode cX5_shed 2 = .ok (.iload_n 2, 1) := by decide +kernel
theorem dX5_shed_3 : decode cX5_shed 3 = .ok (.iconst 3, 1) := by decide +kernel
theorem dX5_shed_4 : decode cX5_shed 4 = .ok (.if_icmp .ge 16, 3) := by decide +kernel
theorem dX5_shed_7 : decode cX5_shed 7 = .ok (.aload_n 0, 1) := by decide +kernel
theorem dX5_shed_8 : decode cX5_shed 8 = .ok (.getfield 42, 3) := by decide +kernel
theorem dX5_shed_11 : decode cX5_shed 11 = .ok (.iload_n 2, 1) := by decide +kernel
theorem dX5_shed_12 : decode cX5_shed 12 = .ok (.iconst 0, 1) := by decide +kernel
theorem dX5_shed_13 : decode cX5_shed 13 = .ok (.iastore, 1) := by decide +kernel
theorem dX5_shed_14 : decode cX5_shed 14 = .ok (.iinc 2 1, 3) := by decide +kernel
theorem dX5_shed_17 : decode cX5_shed 17 = .ok (.goto (-15), 3) := by decide +kernel
theorem dX5_shed_20 : decode cX5_shed 20 = .ok (.iconst 0, 1) := by decide +kernel
theorem dX5_shed_21 : decode cX5_shed 21 = .ok (.istore_n 2, 1) := by decide +kernel
theorem dX5_shed_22 : decode cX5_shed 22 = .ok (.iload_n 2, 1) := by decide +kernel
theorem dX5_shed_23 : decode cX5_shed 23 = .ok (.iconst 2, 1) := by decide +kernel
theorem dX5_shed_24 : decode cX5_shed 24 = .ok (.if_icmp .ge 99, 3) := by decide +kernel
theorem dX5_shed_27 : decode cX5_shed 27 = .ok (.aload_n 0, 1) := by decide +kernel
theorem dX5_shed_28 : decode cX5_shed 28 = .ok (.getfield 12, 3) := by decide +kernel
theorem dX5_shed_31 : decode cX5_shed 31 = .ok (.aload_n 0, 1) := by decide +kernel
theorem dX5_shed_32 : decode cX5_shed 32 = .ok (.getfield 12, 3) := by decide +kernel
theorem dX5_shed_35 : decode cX5_shed 35 = .ok (.getfield 154, 3) := by decide +kernel
theorem dX5_shed_38 : decode cX5_shed 38 = .ok (.invokevirtual 157, 3) := by decide +kernel
theorem dX5_shed_41 : decode cX5_shed 41 = .ok (.iload_n 1, 1) := by decide +kernel
theorem dX5_shed_42 : decode cX5_shed 42 = .ok (.if_icmp .le 81, 3) := by decide +kernel
theorem dX5_shed_45 : decode cX5_shed 45 = .ok (.aload_n 0, 1) := by decide +kernel
theorem dX5_shed_46 : decode cX5_shed 46 = .ok (.getfield 12, 3) := by decide +kernel
theorem dX5_shed_49 : decode cX5_shed 49 = .ok (.aload_n 0, 1) := by decide +kernel
theorem dX5_shed_50 : decode cX5_shed 50 = .ok (.getfield 55, 3) := by decide +kernel
theorem dX5_shed_53 : decode cX5_shed 53 = .ok (.aload_n 0, 1) := by decide +kernel
theorem dX5_shed_54 : decode cX5_shed 54 = .ok (.getfield 12, 3) := by decide +kernel
theorem dX5_shed_57 : decode cX5_shed 57 = .ok (.getfield 154, 3) := by decide +kernel
theorem dX5_shed_60 : decode cX5_shed 60 = .ok (.invokevirtual 161, 3) := by decide +kernel
theorem dX5_shed_63 : decode cX5_shed 63 = .ok (.ifCond .le 37, 3) := by decide +kernel
theorem dX5_shed_66 : decode cX5_shed 66 = .ok (.aload_n 0, 1) := by decide +kernel
theorem dX5_shed_67 : decode cX5_shed 67 = .ok (.getfield 12, 3) := by decide +kernel
theorem dX5_shed_70 : decode cX5_shed 70 = .ok (.aload_n 0, 1) := by decide +kernel
theorem dX5_shed_71 : decode cX5_shed 71 = .ok (.getfield 55, 3) := by decide +kernel
theorem dX5_shed_74 : decode cX5_shed 74 = .ok (.invokevirtual 165, 3) := by decide +kernel
theorem dX5_shed_77 : decode cX5_shed 77 = .ok (.aload_n 0, 1) := by decide +kernel
theorem dX5_shed_78 : decode cX5_shed 78 = .ok (.getfield 42, 3) := by decide +kernel
theorem dX5_shed_81 : decode cX5_shed 81 = .ok (.aload_n 0, 1) := by decide +kernel
theorem dX5_shed_82 : decode cX5_shed 82 = .ok (.getfield 55, 3) := by decide +kernel
theorem dX5_shed_85 : decode cX5_shed 85 = .ok (.iconst 1, 1) := by decide +kernel
theorem dX5_shed_86 : decode cX5_shed 86 = .ok (.iastore, 1) := by decide +kernel
theorem dX5_shed_87 : decode cX5_shed 87 = .ok (.aload_n 0, 1) := by decide +kernel
theorem dX5_shed_88 : decode cX5_shed 88 = .ok (.getfield 39, 3) := by decide +kernel
theorem dX5_shed_91 : decode cX5_shed 91 = .ok (.aload_n 0, 1) := by decide +kernel
theorem dX5_shed_92 : decode cX5_shed 92 = .ok (.getfield 55, 3) := by decide +kernel
theorem dX5_shed_95 : decode cX5_shed 95 = .ok (.dup2, 1) := by decide +kernel
theorem dX5_shed_96 : decode cX5_shed 96 = .ok (.iaload, 1) := by decide +kernel
theorem dX5_shed_97 : decode cX5_shed 97 = .ok (.iconst 1, 1) := by decide +kernel
theorem dX5_shed_98 : decode cX5_shed 98 = .ok (.iadd, 1) := by decide +kernel
theorem dX5_shed_99 : decode cX5_shed 99 = .ok (.iastore, 1) := by decide +kernel
theorem dX5_shed_100 : decode cX5_shed 100 = .ok (.aload_n 0, 1) := by decide +kernel
theorem dX5_shed_101 : decode cX5_shed 101 = .ok (.aload_n 0, 1) := by decide +kernel
theorem dX5_shed_102 : decode cX5_shed 102 = .ok (.getfield 55, 3) := by decide +kernel
theorem dX5_shed_105 : decode cX5_shed 105 = .ok (.iconst 1, 1) := by decide +kernel
theorem dX5_shed_106 : decode cX5_shed 106 = .ok (.if_icmp .ne 7, 3) := by decide +kernel
theorem dX5_shed_109 : decode cX5_shed 109 = .ok (.iconst 2, 1) := by decide +kernel
theorem dX5_shed_110 : decode cX5_shed 110 = .ok (.goto 4, 3) := by decide +kernel
theorem dX5_shed_113 : decode cX5_shed 113 = .ok (.iconst 1, 1) := by decide +kernel
theorem dX5_shed_114 : decode cX5_shed 114 = .ok (.putfield 55, 3) := by decide +kernel
theorem dX5_shed_117 : decode cX5_shed 117 = .ok (.iinc 2 1, 3) := by decide +kernel
theorem dX5_shed_120 : decode cX5_shed 120 = .ok (.goto (-98), 3) := by decide +kernel
theorem dX5_shed_123 : decode cX5_shed 123 = .ok (.return_, 1) := by decide +kernel
theorem dX5_serve_0 : decode cX5_serve 0 = .ok (.iload_n 1, 1) := by decide +kernel
theorem dX5_serve_1 : decode cX5_serve 1 = .ok (.istore_n 2, 1) := by decide +kernel
theorem dX5_serve_2 : decode cX5_serve 2 = .ok (.iconst 0, 1) := by decide +kernel
theorem dX5_serve_3 : decode cX5_serve 3 = .ok (.istore_n 3, 1) := by decide +kernel
theorem dX5_serve_4 : decode cX5_serve 4 = .ok (.iload_n 3, 1) := by decide +kernel
theorem dX5_serve_5 : decode cX5_serve 5 = .ok (.iconst 3, 1) := by decide +kernel
theorem dX5_serve_6 : decode cX5_serve 6 = .ok (.if_icmp .ge 92, 3) := by decide +kernel
theorem dX5_serve_9 : decode cX5_serve 9 = .ok (.iconst 0, 1) := by decide +kernel
theorem dX5_serve_10 : decode cX5_serve 10 = .ok (.istore 4, 2) := by decide +kernel
theorem dX5_serve_12 : decode cX5_serve 12 = .ok (.iload 4, 2) := by decide +kernel
theorem dX5_serve_14 : decode cX5_serve 14 = .ok (.aload_n 0, 1) := by decide +kernel
theorem dX5_serve_15 : decode cX5_serve 15 = .ok (.getfield 12, 3) := by decide +kernel
theorem dX5_serve_18 : decode cX5_serve 18 = .ok (.getfield 168, 3) := by decide +kernel
theorem dX5_serve_21 : decode cX5_serve 21 = .ok (.if_icmp .ge 71, 3) := by decide +kernel
theorem dX5_serve_24 : decode cX5_serve 24 = .ok (.aload_n 0, 1) := by decide +kernel
theorem dX5_serve_25 : decode cX5_serve 25 = .ok (.getfield 12, 3) := by decide +kernel
theorem dX5_serve_28 : decode cX5_serve 28 = .ok (.getfield 169, 3) := by decide +kernel
theorem dX5_serve_31 : decode cX5_serve 31 = .ok (.iload 4, 2) := by decide +kernel
theorem dX5_serve_33 : decode cX5_serve 33 = .ok (.iaload, 1) := by decide +kernel
theorem dX5_serve_34 : decode cX5_serve 34 = .ok (.iload_n 3, 1) := by decide +kernel
theorem dX5_serve_35 : decode cX5_serve 35 = .ok (.if_icmp .ne 51, 3) := by decide +kernel
theorem dX5_serve_38 : decode cX5_serve 38 = .ok (.aload_n 0, 1) := by decide +kernel
theorem dX5_serve_39 : decode cX5_serve 39 = .ok (.aload_n 0, 1) := by decide +kernel
theorem dX5_serve_40 : decode cX5_serve 40 = .ok (.getfield 12, 3) := by decide +kernel
theorem dX5_serve_43 : decode cX5_serve 43 = .ok (.getfield 154, 3) := by decide +kernel
theorem dX5_serve_46 : decode cX5_serve 46 = .ok (.iload 4, 2) := by decide +kernel
theorem dX5_serve_48 : decode cX5_serve 48 = .ok (.iaload, 1) := by decide +kernel
theorem dX5_serve_49 : decode cX5_serve 49 = .ok (.iload_n 2, 1) := by decide +kernel
theorem dX5_serve_50 : decode cX5_serve 50 = .ok (.invokevirtual 172, 3) := by decide +kernel
theorem dX5_serve_53 : decode cX5_serve 53 = .ok (.istore 5, 2) := by decide +kernel
theorem dX5_serve_55 : decode cX5_serve 55 = .ok (.aload_n 0, 1) := by decide +kernel
theorem dX5_serve_56 : decode cX5_serve 56 = .ok (.getfield 12, 3) := by decide +kernel
theorem dX5_serve_59 : decode cX5_serve 59 = .ok (.iload 4, 2) := by decide +kernel
theorem dX5_serve_61 : decode cX5_serve 61 = .ok (.iload 5, 2) := by decide +kernel
theorem dX5_serve_63 : decode cX5_serve 63 = .ok (.aload_n 0, 1) := by decide +kernel
theorem dX5_serve_64 : decode cX5_serve 64 = .ok (.getfield 42, 3) := by decide +kernel
theorem dX5_serve_67 : decode cX5_serve 67 = .ok (.iload_n 3, 1) := by decide +kernel
theorem dX5_serve_68 : decode cX5_serve 68 = .ok (.iaload, 1) := by decide +kernel
theorem dX5_serve_69 : decode cX5_serve 69 = .ok (.iconst 1, 1) := by decide +kernel
theorem dX5_serve_70 : decode cX5_serve 70 = .ok (.if_icmp .ne 7, 3) := by decide +kernel
theorem dX5_serve_73 : decode cX5_serve 73 = .ok (.iconst 1, 1) := by decide +kernel
theorem dX5_serve_74 : decode cX5_serve 74 = .ok (.goto 4, 3) := by decide +kernel
theorem dX5_serve_77 : decode cX5_serve 77 = .ok (.iconst 0, 1) := by decide +kernel
theorem dX5_serve_78 : decode cX5_serve 78 = .ok (.invokevirtual 175, 3) := by decide +kernel
theorem dX5_serve_81 : decode cX5_serve 81 = .ok (.iload_n 2, 1) := by decide +kernel
theorem dX5_serve_82 : decode cX5_serve 82 = .ok (.iload 5, 2) := by decide +kernel
theorem dX5_serve_84 : decode cX5_serve 84 = .ok (.isub, 1) := by decide +kernel
theorem dX5_serve_85 : decode cX5_serve 85 = .ok (.istore_n 2, 1) := by decide +kernel
theorem dX5_serve_86 : decode cX5_serve 86 = .ok (.iinc 4 1, 3) := by decide +kernel
theorem dX5_serve_89 : decode cX5_serve 89 = .ok (.goto (-77), 3) := by decide +kernel
theorem dX5_serve_92 : decode cX5_serve 92 = .ok (.iinc 3 1, 3) := by decide +kernel
theorem dX5_serve_95 : decode cX5_serve 95 = .ok (.goto (-91), 3) := by decide +kernel
theorem dX5_serve_98 : decode cX5_serve 98 = .ok (.iload_n 1, 1) := by decide +kernel
theorem dX5_serve_99 : decode cX5_serve 99 = .ok (.iload_n 2, 1) := by decide +kernel
theorem dX5_serve_100 : decode cX5_serve 100 = .ok (.isub, 1) := by decide +kernel
theorem dX5_serve_101 : decode cX5_serve 101 = .ok (.ireturn, 1) := by decide +kernel
theorem dX5_partOf_0 : decode cX5_partOf 0 = .ok (.iload_n 2, 1) := by decide +kernel
theorem dX5_partOf_1 : decode cX5_partOf 1 = .ok (.iload_n 1, 1) := by decide +kernel
theorem dX5_partOf_2 : decode cX5_partOf 2 = .ok (.if_icmp .lt 5, 3) := by decide +kernel
theorem dX5_partOf_5 : decode cX5_partOf 5 = .ok (.iload_n 1, 1) := by decide +kernel
theorem dX5_partOf_6 : decode cX5_partOf 6 = .ok (.ireturn, 1) := by decide +kernel
theorem dX5_partOf_7 : decode cX5_partOf 7 = .ok (.iload_n 2, 1) := by decide +kernel
theorem dX5_partOf_8 : decode cX5_partOf 8 = .ok (.bipush 100, 2) := by decide +kernel
theorem dX5_partOf_10 : decode cX5_partOf 10 = .ok (.imul, 1) := by decide +kernel
theorem dX5_partOf_11 : decode cX5_partOf 11 = .ok (.iload_n 1, 1) := by decide +kernel
theorem dX5_partOf_12 : decode cX5_partOf 12 = .ok (.aload_n 0, 1) := by decide +kernel
theorem dX5_partOf_13 : decode cX5_partOf 13 = .ok (.getfield 32, 3) := by decide +kernel
theorem dX5_partOf_16 : decode cX5_partOf 16 = .ok (.iconst 3, 1) := by decide +kernel
theorem dX5_partOf_17 : decode cX5_partOf 17 = .ok (.iaload, 1) := by decide +kernel
theorem dX5_partOf_18 : decode cX5_partOf 18 = .ok (.imul, 1) := by decide +kernel
theorem dX5_partOf_19 : decode cX5_partOf 19 = .ok (.if_icmp .lt 7, 3) := by decide +kernel
theorem dX5_partOf_22 : decode cX5_partOf 22 = .ok (.iload_n 2, 1) := by decide +kernel
theorem dX5_partOf_23 : decode cX5_partOf 23 = .ok (.goto 4, 3) := by decide +kernel
theorem dX5_partOf_26 : decode cX5_partOf 26 = .ok (.iconst 0, 1) := by decide +kernel
theorem dX5_partOf_27 : decode cX5_partOf 27 = .ok (.ireturn, 1) := by decide +kernel
theorem dX5_store_0 : decode cX5_store 0 = .ok (.iload_n 1, 1) := by decide +kernel
theorem dX5_store_1 : decode cX5_store 1 = .ok (.istore_n 2, 1) := by decide +kernel
theorem dX5_store_2 : decode cX5_store 2 = .ok (.iconst 0, 1) := by decide +kernel
theorem dX5_store_3 : decode cX5_store 3 = .ok (.istore_n 3, 1) := by decide +kernel
theorem dX5_store_4 : decode cX5_store 4 = .ok (.iload_n 3, 1) := by decide +kernel
theorem dX5_store_5 : decode cX5_store 5 = .ok (.iconst 2, 1) := by decide +kernel
theorem dX5_store_6 : decode cX5_store 6 = .ok (.if_icmp .ge 47, 3) := by decide +kernel
theorem dX5_store_9 : decode cX5_store 9 = .ok (.aload_n 0, 1) := by decide +kernel
theorem dX5_store_10 : decode cX5_store 10 = .ok (.getfield 28, 3) := by decide +kernel
theorem dX5_store_13 : decode cX5_store 13 = .ok (.iload_n 3, 1) := by decide +kernel
theorem dX5_store_14 : decode cX5_store 14 = .ok (.iload_n 2, 1) := by decide +kernel
theorem dX5_store_15 : decode cX5_store 15 = .ok (.invokevirtual 179, 3) := by decide +kernel
theorem dX5_store_18 : decode cX5_store 18 = .ok (.istore 4, 2) := by decide +kernel
theorem dX5_store_20 : decode cX5_store 20 = .ok (.aload_n 0, 1) := by decide +kernel
theorem dX5_store_21 : decode cX5_store 21 = .ok (.getfield 36, 3) := by decide +kernel
theorem dX5_store_24 : decode cX5_store 24 = .ok (.iconst 2, 1) := by decide +kernel
theorem dX5_store_25 : decode cX5_store 25 = .ok (.dup2, 1) := by decide +kernel
theorem dX5_store_26 : decode cX5_store 26 = .ok (.iaload, 1) := by decide +kernel
theorem dX5_store_27 : decode cX5_store 27 = .ok (.iload 4, 2) := by decide +kernel
theorem dX5_store_29 : decode cX5_store 29 = .ok (.aload_n 0, 1) := by decide +kernel
theorem dX5_store_30 : decode cX5_store 30 = .ok (.getfield 28, 3) := by decide +kernel
theorem dX5_store_33 : decode cX5_store 33 = .ok (.iload_n 3, 1) := by decide +kernel
theorem dX5_store_34 : decode cX5_store 34 = .ok (.iload 4, 2) := by decide +kernel
theorem dX5_store_36 : decode cX5_store 36 = .ok (.invokevirtual 182, 3) := by decide +kernel
theorem dX5_store_39 : decode cX5_store 39 = .ok (.isub, 1) := by decide +kernel
theorem dX5_store_40 : decode cX5_store 40 = .ok (.iadd, 1) := by decide +kernel
theorem dX5_store_41 : decode cX5_store 41 = .ok (.iastore, 1) := by decide +kernel
theorem dX5_store_42 : decode cX5_store 42 = .ok (.iload_n 2, 1) := by decide +kernel
theorem dX5_store_43 : decode cX5_store 43 = .ok (.iload 4, 2) := by decide +kernel
theorem dX5_store_45 : decode cX5_store 45 = .ok (.isub, 1) := by decide +kernel
theorem dX5_store_46 : decode cX5_store 46 = .ok (.istore_n 2, 1) := by decide +kernel
theorem dX5_store_47 : decode cX5_store 47 = .ok (.iinc 3 1, 3) := by decide +kernel
theorem dX5_store_50 : decode cX5_store 50 = .ok (.goto (-46), 3) := by decide +kernel
theorem dX5_store_53 : decode cX5_store 53 = .ok (.aload_n 0, 1) := by decide +kernel
theorem dX5_store_54 : decode cX5_store 54 = .ok (.getfield 36, 3) := by decide +kernel
theorem dX5_store_57 : decode cX5_store 57 = .ok (.iconst 3, 1) := by decide +kernel
theorem dX5_store_58 : decode cX5_store 58 = .ok (.dup2, 1) := by decide +kernel
theorem dX5_store_59 : decode cX5_store 59 = .ok (.iaload, 1) := by decide +kernel
theorem dX5_store_60 : decode cX5_store 60 = .ok (.iload_n 2, 1) := by decide +kernel
theorem dX5_store_61 : decode cX5_store 61 = .ok (.iadd, 1) := by decide +kernel
theorem dX5_store_62 : decode cX5_store 62 = .ok (.iastore, 1) := by decide +kernel
theorem dX5_store_63 : decode cX5_store 63 = .ok (.return_, 1) := by decide +kernel
theorem dX6_init_0 : decode cX6_init 0 = .ok (.aload_n 0, 1) := by decide +kernel
theorem dX6_init_1 : decode cX6_init 1 = .ok (.invokespecial 1, 3) := by decide +kernel
theorem dX6_init_4 : decode cX6_init 4 = .ok (.aload_n 0, 1) := by decide +kernel
theorem dX6_init_5 : decode cX6_init 5 = .ok (.new 7, 3) := by decide +kernel
theorem dX6_init_8 : decode cX6_init 8 = .ok (.dup, 1) := by decide +kernel
theorem dX6_init_9 : decode cX6_init 9 = .ok (.invokespecial 9, 3) := by decide +kernel
theorem dX6_init_12 : decode cX6_init 12 = .ok (.putfield 10, 3) := by decide +kernel
theorem dX6_init_15 : decode cX6_init 15 = .ok (.aload_n 0, 1) := by decide +kernel
theorem dX6_init_16 : decode cX6_init 16 = .ok (.new 7, 3) := by decide +kernel
theorem dX6_init_19 : decode cX6_init 19 = .ok (.dup, 1) := by decide +kernel
theorem dX6_init_20 : decode cX6_init 20 = .ok (.invokespecial 9, 3) := by decide +kernel
theorem dX6_init_23 : decode cX6_init 23 = .ok (.putfield 16, 3) := by decide +kernel
theorem dX6_init_26 : decode cX6_init 26 = .ok (.aload_n 0, 1) := by decide +kernel
theorem dX6_init_27 : decode cX6_init 27 = .ok (.new 19, 3) := by decide +kernel
theorem dX6_init_30 : decode cX6_init 30 = .ok (.dup, 1) := by decide +kernel
theorem dX6_init_31 : decode cX6_init 31 = .ok (.invokespecial 21, 3) := by decide +kernel
theorem dX6_init_34 : decode cX6_init 34 = .ok (.putfield 22, 3) := by decide +kernel
theorem dX6_init_37 : decode cX6_init 37 = .ok (.aload_n 0, 1) := by decide +kernel
theorem dX6_init_38 : decode cX6_init 38 = .ok (.iconst 2, 1) := by decide +kernel
theorem dX6_init_39 : decode cX6_init 39 = .ok (.anewarray 7, 3) := by decide +kernel
theorem dX6_init_42 : decode cX6_init 42 = .ok (.putfield 26, 3) := by decide +kernel
theorem dX6_init_45 : decode cX6_init 45 = .ok (.aload_n 0, 1) := by decide +kernel
theorem dX6_init_46 : decode cX6_init 46 = .ok (.iconst 2, 1) := by decide +kernel
theorem dX6_init_47 : decode cX6_init 47 = .ok (.newarray .boolean, 2) := by decide +kernel
theorem dX6_init_49 : decode cX6_init 49 = .ok (.putfield 30, 3) := by decide +kernel
theorem dX6_init_52 : decode cX6_init 52 = .ok (.aload_n 0, 1) := by decide +kernel
theorem dX6_init_53 : decode cX6_init 53 = .ok (.new 34, 3) := by decide +kernel
theorem dX6_init_56 : decode cX6_init 56 = .ok (.dup, 1) := by decide +kernel
theorem dX6_init_57 : decode cX6_init 57 = .ok (.invokespecial 36, 3) := by decide +kernel
theorem dX6_init_60 : decode cX6_init 60 = .ok (.putfield 37, 3) := by decide +kernel
theorem dX6_init_63 : decode cX6_init 63 = .ok (.iconst 0, 1) := by decide +kernel
theorem dX6_init_64 : decode cX6_init 64 = .ok (.istore_n 1, 1) := by decide +kernel
theorem dX6_init_65 : decode cX6_init 65 = .ok (.iload_n 1, 1) := by decide +kernel
theorem dX6_init_66 : decode cX6_init 66 = .ok (.iconst 2, 1) := by decide +kernel
theorem dX6_init_67 : decode cX6_init 67 = .ok (.if_icmp .ge 22, 3) := by decide +kernel
theorem dX6_init_70 : decode cX6_init 70 = .ok (.aload_n 0, 1) := by decide +kernel
theorem dX6_init_71 : decode cX6_init 71 = .ok (.getfield 26, 3) := by decide +kernel
theorem dX6_init_74 : decode cX6_init 74 = .ok (.iload_n 1, 1) := by decide +kernel
theorem dX6_init_75 : decode cX6_init 75 = .ok (.new 7, 3) := by decide +kernel
theorem dX6_init_78 : decode cX6_init 78 = .ok (.dup, 1) := by decide +kernel
theorem dX6_init_79 : decode cX6_init 79 = .ok (.invokespecial 9, 3) := by decide +kernel
theorem dX6_init_82 : decode cX6_init 82 = .ok (.aastore, 1) := by decide +kernel
theorem dX6_init_83 : decode cX6_init 83 = .ok (.iinc 1 1, 3) := by decide +kernel
theorem dX6_init_86 : decode cX6_init 86 = .ok (.goto (-21), 3) := by decide +kernel
theorem dX6_init_89 : decode cX6_init 89 = .ok (.return_, 1) := by decide +kernel
theorem dX6_addHouse_0 : decode cX6_addHouse 0 = .ok (.iload_n 1, 1) := by decide +kernel
theorem dX6_addHouse_1 : decode cX6_addHouse 1 = .ok (.iconst 0, 1) := by decide +kernel
theorem dX6_addHouse_2 : decode cX6_addHouse 2 = .ok (.iconst 2, 1) := by decide +kernel
theorem dX6_addHouse_3 : decode cX6_addHouse 3 = .ok (.invokestatic 41, 3) := by decide +kernel
theorem dX6_addHouse_6 : decode cX6_addHouse 6 = .ok (.ifCond .eq 13, 3) := by decide +kernel
theorem dX6_addHouse_9 : decode cX6_addHouse 9 = .ok (.iload_n 2, 1) := by decide +kernel
theorem dX6_addHouse_10 : decode cX6_addHouse 10 = .ok (.iconst 0, 1) := by decide +kernel
theorem dX6_addHouse_11 : decode cX6_addHouse 11 = .ok (.bipush 50, 2) := by decide +kernel
theorem dX6_addHouse_13 : decode cX6_addHouse 13 = .ok (.invokestatic 41, 3) := by decide +kernel
theorem dX6_addHouse_16 : decode cX6_addHouse 16 = .ok (.ifCond .ne 6, 3) := by decide +kernel
theorem dX6_addHouse_19 : decode cX6_addHouse 19 = .ok (.ldc 45, 2) := by decide +kernel
theorem dX6_addHouse_21 : decode cX6_addHouse 21 = .ok (.ireturn, 1) := by decide +kernel
theorem dX6_addHouse_22 : decode cX6_addHouse 22 = .ok (.aload_n 0, 1) := by decide +kernel
theorem dX6_addHouse_23 : decode cX6_addHouse 23 = .ok (.getfield 10, 3) := by decide +kernel
theorem dX6_addHouse_26 : decode cX6_addHouse 26 = .ok (.getfield 46, 3) := by decide +kernel
theorem dX6_addHouse_29 : decode cX6_addHouse 29 = .ok (.getfield 50, 3) := by decide +kernel
theorem dX6_addHouse_32 : decode cX6_addHouse 32 = .ok (.bipush 10, 2) := by decide +kernel
theorem dX6_addHouse_34 : decode cX6_addHouse 34 = .ok (.if_icmp .lt 6, 3) := by decide +kernel
theorem dX6_addHouse_37 : decode cX6_addHouse 37 = .ok (.ldc 56, 2) := by decide +kernel
theorem dX6_addHouse_39 : decode cX6_addHouse 39 = .ok (.ireturn, 1) := by decide +kernel
theorem dX6_addHouse_40 : decode cX6_addHouse 40 = .ok (.aload_n 0, 1) := by decide +kernel
theorem dX6_addHouse_41 : decode cX6_addHouse 41 = .ok (.getfield 22, 3) := by decide +kernel
theorem dX6_addHouse_44 : decode cX6_addHouse 44 = .ok (.aload_n 0, 1) := by decide +kernel
theorem dX6_addHouse_45 : decode cX6_addHouse 45 = .ok (.getfield 10, 3) := by decide +kernel
theorem dX6_addHouse_48 : decode cX6_addHouse 48 = .ok (.invokevirtual 57, 3) := by decide +kernel
theorem dX6_addHouse_51 : decode cX6_addHouse 51 = .ok (.aload_n 0, 1) := by decide +kernel
theorem dX6_addHouse_52 : decode cX6_addHouse 52 = .ok (.getfield 10, 3) := by decide +kernel
theorem dX6_addHouse_55 : decode cX6_addHouse 55 = .ok (.getfield 46, 3) := by decide +kernel
theorem dX6_addHouse_58 : decode cX6_addHouse 58 = .ok (.iload_n 1, 1) := by decide +kernel
theorem dX6_addHouse_59 : decode cX6_addHouse 59 = .ok (.iload_n 2, 1) := by decide +kernel
theorem dX6_addHouse_60 : decode cX6_addHouse 60 = .ok (.invokevirtual 61, 3) := by decide +kernel
theorem dX6_addHouse_63 : decode cX6_addHouse 63 = .ok (.ireturn, 1) := by decide +kernel
theorem dX6_setHouse_0 : decode cX6_setHouse 0 = .ok (.aload_n 0, 1) := by decide +kernel
theorem dX6_setHouse_1 : decode cX6_setHouse 1 = .ok (.iload_n 1, 1) := by decide +kernel
theorem dX6_setHouse_2 : decode cX6_setHouse 2 = .ok (.invokevirtual 65, 3) := by decide +kernel
theorem dX6_setHouse_5 : decode cX6_setHouse 5 = .ok (.ifCond .eq 25, 3) := by decide +kernel
theorem dX6_setHouse_8 : decode cX6_setHouse 8 = .ok (.iload_n 2, 1) := by decide +kernel
theorem dX6_setHouse_9 : decode cX6_setHouse 9 = .ok (.iconst 0, 1) := by decide +kernel
theorem dX6_setHouse_10 : decode cX6_setHouse 10 = .ok (.iconst 3, 1) := by decide +kernel
theorem dX6_setHouse_11 : decode cX6_setHouse 11 = .ok (.invokestatic 41, 3) := by decide +kernel
theorem dX6_setHouse_14 : decode cX6_setHouse 14 = .ok (.ifCond .eq 16, 3) := by decide +kernel
theorem dX6_setHouse_17 : decode cX6_setHouse 17 = .ok (.iload_n 3, 1) := by decide +kernel
theorem dX6_setHouse_18 : decode cX6_setHouse 18 = .ok (.iconst 0, 1) := by decide +kernel
theorem dX6_setHouse_19 : decode cX6_setHouse 19 = .ok (.getstatic 69, 3) := by decide +kernel
theorem dX6_setHouse_22 : decode cX6_setHouse 22 = .ok (.iload_n 2, 1) := by decide +kernel
theorem dX6_setHouse_23 : decode cX6_setHouse 23 = .ok (.iaload, 1) := by decide +kernel
theorem dX6_setHouse_24 : decode cX6_setHouse 24 = .ok (.invokestatic 41, 3) := by decide +kernel
theorem dX6_setHouse_27 : decode cX6_setHouse 27 = .ok (.ifCond .ne 6, 3) := by decide +kernel
theorem dX6_setHouse_30 : decode cX6_setHouse 30 = .ok (.ldc 45, 2) := by decide +kernel
theorem dX6_setHouse_32 : decode cX6_setHouse 32 = .ok (.ireturn, 1) := by decide +kernel
theorem dX6_setHouse_33 : decode cX6_setHouse 33 = .ok (.aload_n 0, 1) := by decide +kernel
theorem dX6_setHouse_34 : decode cX6_setHouse 34 = .ok (.getfield 22, 3) := by decide +kernel
theorem dX6_setHouse_37 : decode cX6_setHouse 37 = .ok (.aload_n 0, 1) := by decide +kernel
theorem dX6_setHouse_38 : decode cX6_setHouse 38 = .ok (.getfield 10, 3) := by decide +kernel
theorem dX6_setHouse_41 : decode cX6_setHouse 41 = .ok (.invokevirtual 57, 3) := by decide +kernel
theorem dX6_setHouse_44 : decode cX6_setHouse 44 = .ok (.aload_n 0, 1) := by decide +kernel
theorem dX6_setHouse_45 : decode cX6_setHouse 45 = .ok (.getfield 10, 3) := by decide +kernel
theorem dX6_setHouse_48 : decode cX6_setHouse 48 = .ok (.getfield 46, 3) := by decide +kernel
theorem dX6_setHouse_51 : decode cX6_setHouse 51 = .ok (.iload_n 1, 1) := by decide +kernel
theorem dX6_setHouse_52 : decode cX6_setHouse 52 = .ok (.iload_n 2, 1) := by decide +kernel
theorem dX6_setHouse_53 : decode cX6_setHouse 53 = .ok (.invokevirtual 73, 3) := by decide +kernel
theorem dX6_setHouse_56 : decode cX6_setHouse 56 = .ok (.istore 4, 2) := by decide +kernel
theorem dX6_setHouse_58 : decode cX6_setHouse 58 = .ok (.aload_n 0, 1) := by decide +kernel
theorem dX6_setHouse_59 : decode cX6_setHouse 59 = .ok (.getfield 10, 3) := by decide +kernel
theorem dX6_setHouse_62 : decode cX6_setHouse 62 = .ok (.getfield 46, 3) := by decide +kernel
theorem dX6_setHouse_65 : decode cX6_setHouse 65 = .ok (.iload_n 1, 1) := by decide +kernel
theorem dX6_setHouse_66 : decode cX6_setHouse 66 = .ok (.iload_n 2, 1) := by decide +kernel
theorem dX6_setHouse_67 : decode cX6_setHouse 67 = .ok (.iload_n 3, 1) := by decide +kernel
theorem dX6_setHouse_68 : decode cX6_setHouse 68 = .ok (.invokevirtual 76, 3) := by decide +kernel
theorem dX6_setHouse_71 : decode cX6_setHouse 71 = .ok (.iload 4, 2) := by decide +kernel
theorem dX6_setHouse_73 : decode cX6_setHouse 73 = .ok (.ireturn, 1) := by decide +kernel
theorem dX6_buy_0 : decode cX6_buy 0 = .ok (.aload_n 0, 1) := by decide +kernel
theorem dX6_buy_1 : decode cX6_buy 1 = .ok (.iload_n 1, 1) := by decide +kernel
theorem dX6_buy_2 : decode cX6_buy 2 = .ok (.invokevirtual 65, 3) := by decide +kernel
theorem dX6_buy_5 : decode cX6_buy 5 = .ok (.ifCond .eq 14, 3) := by decide +kernel
theorem dX6_buy_8 : decode cX6_buy 8 = .ok (.iload_n 2, 1) := by decide +kernel
theorem dX6_buy_9 : decode cX6_buy 9 = .ok (.iconst 1, 1) := by decide +kernel
theorem dX6_buy_10 : decode cX6_buy 10 = .ok (.sipush 500, 3) := by decide +kernel
theorem dX6_buy_13 : decode cX6_buy 13 = .ok (.invokestatic 41, 3) := by decide +kernel
theorem dX6_buy_16 : decode cX6_buy 16 = .ok (.ifCond .ne 6, 3) := by decide +kernel
theorem dX6_buy_19 : decode cX6_buy 19 = .ok (.ldc 45, 2) := by decide +kernel
theorem dX6_buy_21 : decode cX6_buy 21 = .ok (.ireturn, 1) := by decide +kernel
theorem dX6_buy_22 : decode cX6_buy 22 = .ok (.aload_n 0, 1) := by decide +kernel
theorem dX6_buy_23 : decode cX6_buy 23 = .ok (.getfield 22, 3) := by decide +kernel
theorem dX6_buy_26 : decode cX6_buy 26 = .ok (.aload_n 0, 1) := by decide +kernel
theorem dX6_buy_27 : decode cX6_buy 27 = .ok (.getfield 10, 3) := by decide +kernel
theorem dX6_buy_30 : decode cX6_buy 30 = .ok (.invokevirtual 57, 3) := by decide +kernel
theorem dX6_buy_33 : decode cX6_buy 33 = .ok (.aload_n 0, 1) := by decide +kernel
theorem dX6_buy_34 : decode cX6_buy 34 = .ok (.getfield 10, 3) := by decide +kernel
theorem dX6_buy_37 : decode cX6_buy 37 = .ok (.iload_n 1, 1) := by decide +kernel
theorem dX6_buy_38 : decode cX6_buy 38 = .ok (.iload_n 2, 1) := by decide +kernel
theorem dX6_buy_39 : decode cX6_buy 39 = .ok (.invokevirtual 97, 3) := by decide +kernel
theorem dX6_buy_42 : decode cX6_buy 42 = .ok (.aload_n 0, 1) := by decide +kernel
theorem dX6_buy_43 : decode cX6_buy 43 = .ok (.getfield 10, 3) := by decide +kernel
theorem dX6_buy_46 : decode cX6_buy 46 = .ok (.getfield 46, 3) := by decide +kernel
theorem dX6_buy_49 : decode cX6_buy 49 = .ok (.getfield 101, 3) := by decide +kernel
theorem dX6_buy_52 : decode cX6_buy 52 = .ok (.iload_n 1, 1) := by decide +kernel
theorem dX6_buy_53 : decode cX6_buy 53 = .ok (.iaload, 1) := by decide +kernel
theorem dX6_buy_54 : decode cX6_buy 54 = .ok (.ireturn, 1) := by decide +kernel
theorem dX6_lend_0 : decode cX6_lend 0 = .ok (.aload_n 0, 1) := by decide +kernel
theorem dX6_lend_1 : decode cX6_lend 1 = .ok (.iload_n 1, 1) := by decide +kernel
theorem dX6_lend_2 : decode cX6_lend 2 = .ok (.invokevirtual 65, 3) := by decide +kernel
theorem dX6_lend_5 : decode cX6_lend 5 = .ok (.ifCond .eq 27, 3) := by decide +kernel
theorem dX6_lend_8 : decode cX6_lend 8 = .ok (.aload_n 0, 1) := by decide +kernel
theorem dX6_lend_9 : decode cX6_lend 9 = .ok (.iload_n 2, 1) := by decide +kernel
theorem dX6_lend_10 : decode cX6_lend 10 = .ok (.invokevirtual 65, 3) := by decide +kernel
theorem dX6_lend_13 : decode cX6_lend 13 = .ok (.ifCond .eq 19, 3) := by decide +kernel
theorem dX6_lend_16 : decode cX6_lend 16 = .ok (.iload_n 1, 1) := by decide +kernel
theorem dX6_lend_17 : decode cX6_lend 17 = .ok (.iload_n 2, 1) := by decide +kernel
theorem dX6_lend_18 : decode cX6_lend 18 = .ok (.if_icmp .eq 14, 3) := by decide +kernel
theorem dX6_lend_21 : decode cX6_lend 21 = .ok (.iload_n 3, 1) := by decide +kernel
theorem dX6_lend_22 : decode cX6_lend 22 = .ok (.iconst 1, 1) := by decide +kernel
theorem dX6_lend_23 : decode cX6_lend 23 = .ok (.sipush 200, 3) := by decide +kernel
theorem dX6_lend_26 : decode cX6_lend 26 = .ok (.invokestatic 41, 3) := by decide +kernel
theorem dX6_lend_29 : decode cX6_lend 29 = .ok (.ifCond .ne 6, 3) := by decide +kernel
theorem dX6_lend_32 : decode cX6_lend 32 = .ok (.ldc 45, 2) := by decide +kernel
theorem dX6_lend_34 : decode cX6_lend 34 = .ok (.ireturn, 1) := by decide +kernel
theorem dX6_lend_35 : decode cX6_lend 35 = .ok (.aload_n 0, 1) := by decide +kernel
theorem dX6_lend_36 : decode cX6_lend 36 = .ok (.getfield 10, 3) := by decide +kernel
theorem dX6_lend_39 : decode cX6_lend 39 = .ok (.getfield 46, 3) := by decide +kernel
theorem dX6_lend_42 : decode cX6_lend 42 = .ok (.getfield 101, 3) := by decide +kernel
theorem dX6_lend_45 : decode cX6_lend 45 = .ok (.iload_n 1, 1) := by decide +kernel
theorem dX6_lend_46 : decode cX6_lend 46 = .ok (.iaload, 1) := by decide +kernel
theorem dX6_lend_47 : decode cX6_lend 47 = .ok (.iload_n 3, 1) := by decide +kernel
theorem dX6_lend_48 : decode cX6_lend 48 = .ok (.if_icmp .ge 6, 3) := by decide +kernel
theorem dX6_lend_51 : decode cX6_lend 51 = .ok (.ldc 89, 2) := by decide +kernel
theorem dX6_lend_53 : decode cX6_lend 53 = .ok (.ireturn, 1) := by decide +kernel
theorem dX6_lend_54 : decode cX6_lend 54 = .ok (.aload_n 0, 1) := by decide +kernel
theorem dX6_lend_55 : decode cX6_lend 55 = .ok (.getfield 10, 3) := by decide +kernel
theorem dX6_lend_58 : decode cX6_lend 58 = .ok (.getfield 80, 3) := by decide +kernel
theorem dX6_lend_61 : decode cX6_lend 61 = .ok (.getfield 104, 3) := by decide +kernel
theorem dX6_lend_64 : decode cX6_lend 64 = .ok (.bipush 12, 2) := by decide +kernel
theorem dX6_lend_66 : decode cX6_lend 66 = .ok (.if_icmp .lt 6, 3) := by decide +kernel
theorem dX6_lend_69 : decode cX6_lend 69 = .ok (.ldc 56, 2) := by decide +kernel
theorem dX6_lend_71 : decode cX6_lend 71 = .ok (.ireturn, 1) := by decide +kernel
theorem dX6_lend_72 : decode cX6_lend 72 = .ok (.aload_n 0, 1) := by decide +kernel
theorem dX6_lend_73 : decode cX6_lend 73 = .ok (.getfield 22, 3) := by decide +kernel
theorem dX6_lend_76 : decode cX6_lend 76 = .ok (.aload_n 0, 1) := by decide +kernel
theorem dX6_lend_77 : decode cX6_lend 77 = .ok (.getfield 10, 3) := by decide +kernel
theorem dX6_lend_80 : decode cX6_lend 80 = .ok (.invokevirtual 57, 3) := by decide +kernel
theorem dX6_lend_83 : decode cX6_lend 83 = .ok (.aload_n 0, 1) := by decide +kernel
theorem dX6_lend_84 : decode cX6_lend 84 = .ok (.getfield 10, 3) := by decide +kernel
theorem dX6_lend_87 : decode cX6_lend 87 = .ok (.getfield 46, 3) := by decide +kernel
theorem dX6_lend_90 : decode cX6_lend 90 = .ok (.getfield 101, 3) := by decide +kernel
theorem dX6_lend_93 : decode cX6_lend 93 = .ok (.iload_n 1, 1) := by decide +kernel
theorem dX6_lend_94 : decode cX6_lend 94 = .ok (.dup2, 1) := by decide +kernel
theorem dX6_lend_95 : decode cX6_lend 95 = .ok (.iaload, 1) := by decide +kernel
theorem dX6_lend_96 : decode cX6_lend 96 = .ok (.iload_n 3, 1) := by decide +kernel
theorem dX6_lend_97 : decode cX6_lend 97 = .ok (.isub, 1) := by decide +kernel
theorem dX6_lend_98 : decode cX6_lend 98 = .ok (.iastore, 1) := by decide +kernel
theorem dX6_lend_99 : decode cX6_lend 99 = .ok (.aload_n 0, 1) := by decide +kernel
theorem dX6_lend_100 : decode cX6_lend 100 = .ok (.getfield 10, 3) := by decide +kernel
theorem dX6_lend_103 : decode cX6_lend 103 = .ok (.getfield 46, 3) := by decide +kernel
theorem dX6_lend_106 : decode cX6_lend 106 = .ok (.getfield 101, 3) := by decide +kernel
theorem dX6_lend_109 : decode cX6_lend 109 = .ok (.iload_n 2, 1) := by decide +kernel
theorem dX6_lend_110 : decode cX6_lend 110 = .ok (.dup2, 1) := by decide +kernel
theorem dX6_lend_111 : decode cX6_lend 111 = .ok (.iaload, 1) := by decide +kernel
theorem dX6_lend_112 : decode cX6_lend 112 = .ok (.iload_n 3, 1) := by decide +kernel
theorem dX6_lend_113 : decode cX6_lend 113 = .ok (.iadd, 1) := by decide +kernel
theorem dX6_lend_114 : decode cX6_lend 114 = .ok (.iastore, 1) := by decide +kernel
theorem dX6_lend_115 : decode cX6_lend 115 = .ok (.aload_n 0, 1) := by decide +kernel
theorem dX6_lend_116 : decode cX6_lend 116 = .ok (.getfield 10, 3) := by decide +kernel
theorem dX6_lend_119 : decode cX6_lend 119 = .ok (.getfield 80, 3) := by decide +kernel
theorem dX6_lend_122 : decode cX6_lend 122 = .ok (.iload_n 1, 1) := by decide +kernel
theorem dX6_lend_123 : decode cX6_lend 123 = .ok (.iload_n 2, 1) := by decide +kernel
theorem dX6_lend_124 : decode cX6_lend 124 = .ok (.iload_n 3, 1) := by decide +kernel
theorem dX6_lend_125 : decode cX6_lend 125 = .ok (.invokevirtual 105, 3) := by decide +kernel
theorem dX6_lend_128 : decode cX6_lend 128 = .ok (.aload_n 0, 1) := by decide +kernel
theorem dX6_lend_129 : decode cX6_lend 129 = .ok (.getfield 10, 3) := by decide +kernel
theorem dX6_lend_132 : decode cX6_lend 132 = .ok (.getfield 80, 3) := by decide +kernel
theorem dX6_lend_135 : decode cX6_lend 135 = .ok (.getfield 104, 3) := by decide +kernel
theorem dX6_lend_138 : decode cX6_lend 138 = .ok (.ireturn, 1) := by decide +kernel
theorem dX6_set_0 : decode cX6_set 0 = .ok (.iload_n 1, 1) := by decide +kernel
theorem dX6_set_1 : decode cX6_set 1 = .ok (.invokestatic 118, 3) := by decide +kernel
theorem dX6_set_4 : decode cX6_set 4 = .ok (.ifCond .eq 16, 3) := by decide +kernel
theorem dX6_set_7 : decode cX6_set 7 = .ok (.iload_n 2, 1) := by decide +kernel
theorem dX6_set_8 : decode cX6_set 8 = .ok (.iconst 0, 1) := by decide +kernel
theorem dX6_set_9 : decode cX6_set 9 = .ok (.getstatic 121, 3) := by decide +kernel
theorem dX6_set_12 : decode cX6_set 12 = .ok (.iload_n 1, 1) := by decide +kernel
theorem dX6_set_13 : decode cX6_set 13 = .ok (.iaload, 1) := by decide +kernel
theorem dX6_set_14 : decode cX6_set 14 = .ok (.invokestatic 41, 3) := by decide +kernel
theorem dX6_set_17 : decode cX6_set 17 = .ok (.ifCond .ne 6, 3) := by decide +kernel
theorem dX6_set_20 : decode cX6_set 20 = .ok (.ldc 45, 2) := by decide +kernel
theorem dX6_set_22 : decode cX6_set 22 = .ok (.ireturn, 1) := by decide +kernel
theorem dX6_set_23 : decode cX6_set 23 = .ok (.aload_n 0, 1) := by decide +kernel
theorem dX6_set_24 : decode cX6_set 24 = .ok (.getfield 22, 3) := by decide +kernel
theorem dX6_set_27 : decode cX6_set 27 = .ok (.aload_n 0, 1) := by decide +kernel
theorem dX6_set_28 : decode cX6_set 28 = .ok (.getfield 10, 3) := by decide +kernel
theorem dX6_set_31 : decode cX6_set 31 = .ok (.invokevirtual 57, 3) := by decide +kernel
theorem dX6_set_34 : decode cX6_set 34 = .ok (.aload_n 0, 1) := by decide +kernel
theorem dX6_set_35 : decode cX6_set 35 = .ok (.getfield 10, 3) := by decide +kernel
theorem dX6_set_38 : decode cX6_set 38 = .ok (.getfield 124, 3) := by decide +kernel
theorem dX6_set_41 : decode cX6_set 41 = .ok (.iload_n 1, 1) := by decide +kernel
theorem dX6_set_42 : decode cX6_set 42 = .ok (.iaload, 1) := by decide +kernel
theorem dX6_set_43 : decode cX6_set 43 = .ok (.istore_n 3, 1) := by decide +kernel
theorem dX6_set_44 : decode cX6_set 44 = .ok (.aload_n 0, 1) := by decide +kernel
theorem dX6_set_45 : decode cX6_set 45 = .ok (.getfield 10, 3) := by decide +kernel
theorem dX6_set_48 : decode cX6_set 48 = .ok (.getfield 124, 3) := by decide +kernel
theorem dX6_set_51 : decode cX6_set 51 = .ok (.iload_n 1, 1) := by decide +kernel
theorem dX6_set_52 : decode cX6_set 52 = .ok (.iload_n 2, 1) := by decide +kernel
theorem dX6_set_53 : decode cX6_set 53 = .ok (.iastore, 1) := by decide +kernel
theorem dX6_set_54 : decode cX6_set 54 = .ok (.iload_n 3, 1) := by decide +kernel
theorem dX6_set_55 : decode cX6_set 55 = .ok (.ireturn, 1) := by decide +kernel
theorem dX6_setBattery_0 : decode cX6_setBattery 0 = .ok (.iload_n 1, 1) := by decide +kernel
theorem dX6_setBattery_1 : decode cX6_setBattery 1 = .ok (.invokestatic 127, 3) := by decide +kernel
theorem dX6_setBattery_4 : decode cX6_setBattery 4 = .ok (.ifCond .eq 29, 3) := by decide +kernel
theorem dX6_setBattery_7 : decode cX6_setBattery 7 = .ok (.iload_n 2, 1) := by decide +kernel
theorem dX6_setBattery_8 : decode cX6_setBattery 8 = .ok (.iconst 0, 1) := by decide +kernel
theorem dX6_setBattery_9 : decode cX6_setBattery 9 = .ok (.iconst 2, 1) := by decide +kernel
theorem dX6_setBattery_10 : decode cX6_setBattery 10 = .ok (.invokestatic 41, 3) := by decide +kernel
theorem dX6_setBattery_13 : decode cX6_setBattery 13 = .ok (.ifCond .eq 20, 3) := by decide +kernel
theorem dX6_setBattery_16 : decode cX6_setBattery 16 = .ok (.iload_n 3, 1) := by decide +kernel
theorem dX6_setBattery_17 : decode cX6_setBattery 17 = .ok (.getstatic 130, 3) := by decide +kernel
theorem dX6_setBattery_20 : decode cX6_setBattery 20 = .ok (.iload_n 2, 1) := by decide +kernel
theorem dX6_setBattery_21 : decode cX6_setBattery 21 = .ok (.iaload, 1) := by decide +kernel
theorem dX6_setBattery_22 : decode cX6_setBattery 22 = .ok (.getstatic 133, 3) := by decide +kernel
theorem dX6_setBattery_25 : decode cX6_setBattery 25 = .ok (.iload_n 2, 1) := by decide +kernel
theorem dX6_setBattery_26 : decode cX6_setBattery 26 = .ok (.iaload, 1) := by decide +kernel
theorem dX6_setBattery_27 : decode cX6_setBattery 27 = .ok (.invokestatic 41, 3) := by decide +kernel
theorem dX6_setBattery_30 : decode cX6_setBattery 30 = .ok (.ifCond .ne 6, 3) := by decide +kernel
theorem dX6_setBattery_33 : decode cX6_setBattery 33 = .ok (.ldc 45, 2) := by decide +kernel
theorem dX6_setBattery_35 : decode cX6_setBattery 35 = .ok (.ireturn, 1) := by decide +kernel
theorem dX6_setBattery_36 : decode cX6_setBattery 36 = .ok (.aload_n 0, 1) := by decide +kernel
theorem dX6_setBattery_37 : decode cX6_setBattery 37 = .ok (.getfield 22, 3) := by decide +kernel
theorem dX6_setBattery_40 : decode cX6_setBattery 40 = .ok (.aload_n 0, 1) := by decide +kernel
theorem dX6_setBattery_41 : decode cX6_setBattery 41 = .ok (.getfield 10, 3) := by decide +kernel
theorem dX6_setBattery_44 : decode cX6_setBattery 44 = .ok (.invokevirtual 57, 3) := by decide +kernel
theorem dX6_setBattery_47 : decode cX6_setBattery 47 = .ok (.aload_n 0, 1) := by decide +kernel
theorem dX6_setBattery_48 : decode cX6_setBattery 48 = .ok (.getfield 10, 3) := by decide +kernel
theorem dX6_setBattery_51 : decode cX6_setBattery 51 = .ok (.getfield 136, 3) := by decide +kernel
theorem dX6_setBattery_54 : decode cX6_setBattery 54 = .ok (.iload_n 1, 1) := by decide +kernel
theorem dX6_setBattery_55 : decode cX6_setBattery 55 = .ok (.iload_n 2, 1) := by decide +kernel
theorem dX6_setBattery_56 : decode cX6_setBattery 56 = .ok (.invokevirtual 140, 3) := by decide +kernel
theorem dX6_setBattery_59 : decode cX6_setBattery 59 = .ok (.istore 4, 2) := by decide +kernel
theorem dX6_setBattery_61 : decode cX6_setBattery 61 = .ok (.aload_n 0, 1) := by decide +kernel
theorem dX6_setBattery_62 : decode cX6_setBattery 62 = .ok (.getfield 10, 3) := by decide +kernel
theorem dX6_setBattery_65 : decode cX6_setBattery 65 = .ok (.getfield 136, 3) := by decide +kernel
theorem dX6_setBattery_68 : decode cX6_setBattery 68 = .ok (.iload_n 1, 1) := by decide +kernel
theorem dX6_setBattery_69 : decode cX6_setBattery 69 = .ok (.iload_n 2, 1) := by decide +kernel
theorem dX6_setBattery_70 : decode cX6_setBattery 70 = .ok (.iload_n 3, 1) := by decide +kernel
theorem dX6_setBattery_71 : decode cX6_setBattery 71 = .ok (.invokevirtual 143, 3) := by decide +kernel
theorem dX6_setBattery_74 : decode cX6_setBattery 74 = .ok (.aload_n 0, 1) := by decide +kernel
theorem dX6_setBattery_75 : decode cX6_setBattery 75 = .ok (.getfield 10, 3) := by decide +kernel
theorem dX6_setBattery_78 : decode cX6_setBattery 78 = .ok (.getfield 144, 3) := by decide +kernel
theorem dX6_setBattery_81 : decode cX6_setBattery 81 = .ok (.iconst 4, 1) := by decide +kernel
theorem dX6_setBattery_82 : decode cX6_setBattery 82 = .ok (.dup2, 1) := by decide +kernel
theorem dX6_setBattery_83 : decode cX6_setBattery 83 = .ok (.iaload, 1) := by decide +kernel
theorem dX6_setBattery_84 : decode cX6_setBattery 84 = .ok (.aload_n 0, 1) := by decide +kernel
theorem dX6_setBattery_85 : decode cX6_setBattery 85 = .ok (.getfield 10, 3) := by decide +kernel
theorem dX6_setBattery_88 : decode cX6_setBattery 88 = .ok (.getfield 136, 3) := by decide +kernel
theorem dX6_setBattery_91 : decode cX6_setBattery 91 = .ok (.iload_n 1, 1) := by decide +kernel
theorem dX6_setBattery_92 : decode cX6_setBattery 92 = .ok (.invokevirtual 147, 3) := by decide +kernel
theorem dX6_setBattery_95 : decode cX6_setBattery 95 = .ok (.iadd, 1) := by decide +kernel
theorem dX6_setBattery_96 : decode cX6_setBattery 96 = .ok (.iastore, 1) := by decide +kernel
theorem dX6_setBattery_97 : decode cX6_setBattery 97 = .ok (.iload 4, 2) := by decide +kernel
theorem dX6_setBattery_99 : decode cX6_setBattery 99 = .ok (.ireturn, 1) := by decide +kernel
theorem dX6_run_0 : decode cX6_run 0 = .ok (.iload_n 1, 1) := by decide +kernel
theorem dX6_run_1 : decode cX6_run 1 = .ok (.iconst 1, 1) := by decide +kernel
theorem dX6_run_2 : decode cX6_run 2 = .ok (.bipush 100, 2) := by decide +kernel
theorem dX6_run_4 : decode cX6_run 4 = .ok (.invokestatic 41, 3) := by decide +kernel
theorem dX6_run_7 : decode cX6_run 7 = .ok (.ifCond .ne 6, 3) := by decide +kernel
theorem dX6_run_10 : decode cX6_run 10 = .ok (.ldc 45, 2) := by decide +kernel
theorem dX6_run_12 : decode cX6_run 12 = .ok (.ireturn, 1) := by decide +kernel
theorem dX6_run_13 : decode cX6_run 13 = .ok (.aload_n 0, 1) := by decide +kernel
theorem dX6_run_14 : decode cX6_run 14 = .ok (.getfield 22, 3) := by decide +kernel
theorem dX6_run_17 : decode cX6_run 17 = .ok (.aload_n 0, 1) := by decide +kernel
theorem dX6_run_18 : decode cX6_run 18 = .ok (.getfield 10, 3) := by decide +kernel
theorem dX6_run_21 : decode cX6_run 21 = .ok (.invokevirtual 57, 3) := by decide +kernel
theorem dX6_run_24 : decode cX6_run 24 = .ok (.aload_n 0, 1) := by decide +kernel
theorem dX6_run_25 : decode cX6_run 25 = .ok (.getfield 10, 3) := by decide +kernel
theorem dX6_run_28 : decode cX6_run 28 = .ok (.getfield 144, 3) := by decide +kernel
theorem dX6_run_31 : decode cX6_run 31 = .ok (.iconst 1, 1) := by decide +kernel
theorem dX6_run_32 : decode cX6_run 32 = .ok (.iaload, 1) := by decide +kernel
theorem dX6_run_33 : decode cX6_run 33 = .ok (.istore_n 2, 1) := by decide +kernel
theorem dX6_run_34 : decode cX6_run 34 = .ok (.aload_n 0, 1) := by decide +kernel
theorem dX6_run_35 : decode cX6_run 35 = .ok (.getfield 10, 3) := by decide +kernel
theorem dX6_run_38 : decode cX6_run 38 = .ok (.iload_n 1, 1) := by decide +kernel
theorem dX6_run_39 : decode cX6_run 39 = .ok (.invokevirtual 151, 3) := by decide +kernel
theorem dX6_run_42 : decode cX6_run 42 = .ok (.aload_n 0, 1) := by decide +kernel
theorem dX6_run_43 : decode cX6_run 43 = .ok (.getfield 10, 3) := by decide +kernel
theorem dX6_run_46 : decode cX6_run 46 = .ok (.getfield 144, 3) := by decide +kernel
theorem dX6_run_49 : decode cX6_run 49 = .ok (.iconst 1, 1) := by decide +kernel
theorem dX6_run_50 : decode cX6_run 50 = .ok (.iaload, 1) := by decide +kernel
theorem dX6_run_51 : decode cX6_run 51 = .ok (.iload_n 2, 1) := by decide +kernel
theorem dX6_run_52 : decode cX6_run 52 = .ok (.isub, 1) := by decide +kernel
theorem dX6_run_53 : decode cX6_run 53 = .ok (.ireturn, 1) := by decide +kernel
theorem dX6_house_0 : decode cX6_house 0 = .ok (.aload_n 0, 1) := by decide +kernel
theorem dX6_house_1 : decode cX6_house 1 = .ok (.iload_n 1, 1) := by decide +kernel
theorem dX6_house_2 : decode cX6_house 2 = .ok (.invokevirtual 65, 3) := by decide +kernel
theorem dX6_house_5 : decode cX6_house 5 = .ok (.ifCond .eq 13, 3) := by decide +kernel
theorem dX6_house_8 : decode cX6_house 8 = .ok (.iload_n 2, 1) := by decide +kernel
theorem dX6_house_9 : decode cX6_house 9 = .ok (.iconst 0, 1) := by decide +kernel
theorem dX6_house_10 : decode cX6_house 10 = .ok (.bipush 10, 2) := by decide +kernel
theorem dX6_house_12 : decode cX6_house 12 = .ok (.invokestatic 41, 3) := by decide +kernel
theorem dX6_house_15 : decode cX6_house 15 = .ok (.ifCond .ne 6, 3) := by decide +kernel
theorem dX6_house_18 : decode cX6_house 18 = .ok (.ldc 45, 2) := by decide +kernel
theorem dX6_house_20 : decode cX6_house 20 = .ok (.ireturn, 1) := by decide +kernel
theorem dX6_house_21 : decode cX6_house 21 = .ok (.iload_n 2, 1) := by decide +kernel
theorem dX6_house_22 : decode cX6_house 22 = .ok (.lookupswitch 79 #[(5, 34), (9, 55), (10, 67)], 34) := by decide +kernel
theorem dX6_house_56 : decode cX6_house 56 = .ok (.aload_n 0, 1) := by decide +kernel
theorem dX6_house_57 : decode cX6_house 57 = .ok (.getfield 10, 3) := by decide +kernel
theorem dX6_house_60 : decode cX6_house 60 = .ok (.getfield 46, 3) := by decide +kernel
theorem dX6_house_63 : decode cX6_house 63 = .ok (.iload_n 1, 1) := by decide +kernel
theorem dX6_house_64 : decode cX6_house 64 = .ok (.aload_n 0, 1) := by decide +kernel
theorem dX6_house_65 : decode cX6_house 65 = .ok (.getfield 10, 3) := by decide +kernel
theorem dX6_house_68 : decode cX6_house 68 = .ok (.getfield 124, 3) := by decide +kernel
theorem dX6_house_71 : decode cX6_house 71 = .ok (.iconst 0, 1) := by decide +kernel
theorem dX6_house_72 : decode cX6_house 72 = .ok (.iaload, 1) := by decide +kernel
theorem dX6_house_73 : decode cX6_house 73 = .ok (.invokevirtual 188, 3) := by decide +kernel
theorem dX6_house_76 : decode cX6_house 76 = .ok (.ireturn, 1) := by decide +kernel
theorem dX6_house_77 : decode cX6_house 77 = .ok (.aload_n 0, 1) := by decide +kernel
theorem dX6_house_78 : decode cX6_house 78 = .ok (.getfield 10, 3) := by decide +kernel
theorem dX6_house_81 : decode cX6_house 81 = .ok (.getfield 80, 3) := by decide +kernel
theorem dX6_house_84 : decode cX6_house 84 = .ok (.iload_n 1, 1) := by decide +kernel
theorem dX6_house_85 : decode cX6_house 85 = .ok (.invokevirtual 191, 3) := by decide +kernel
theorem dX6_house_88 : decode cX6_house 88 = .ok (.ireturn, 1) := by decide +kernel
theorem dX6_house_89 : decode cX6_house 89 = .ok (.aload_n 0, 1) := by decide +kernel
theorem dX6_house_90 : decode cX6_house 90 = .ok (.getfield 10, 3) := by decide +kernel
theorem dX6_house_93 : decode cX6_house 93 = .ok (.getfield 80, 3) := by decide +kernel
theorem dX6_house_96 : decode cX6_house 96 = .ok (.iload_n 1, 1) := by decide +kernel
theorem dX6_house_97 : decode cX6_house 97 = .ok (.invokevirtual 194, 3) := by decide +kernel
theorem dX6_house_100 : decode cX6_house 100 = .ok (.ireturn, 1) := by decide +kernel
theorem dX6_house_101 : decode cX6_house 101 = .ok (.aload_n 0, 1) := by decide +kernel
theorem dX6_house_102 : decode cX6_house 102 = .ok (.getfield 10, 3) := by decide +kernel
theorem dX6_house_105 : decode cX6_house 105 = .ok (.getfield 46, 3) := by decide +kernel
theorem dX6_house_108 : decode cX6_house 108 = .ok (.iload_n 1, 1) := by decide +kernel
theorem dX6_house_109 : decode cX6_house 109 = .ok (.iload_n 2, 1) := by decide +kernel
theorem dX6_house_110 : decode cX6_house 110 = .ok (.invokevirtual 73, 3) := by decide +kernel
theorem dX6_house_113 : decode cX6_house 113 = .ok (.ireturn, 1) := by decide +kernel
theorem dX6_loan_0 : decode cX6_loan 0 = .ok (.aload_n 0, 1) := by decide +kernel
theorem dX6_loan_1 : decode cX6_loan 1 = .ok (.iload_n 1, 1) := by decide +kernel
theorem dX6_loan_2 : decode cX6_loan 2 = .ok (.invokevirtual 107, 3) := by decide +kernel
theorem dX6_loan_5 : decode cX6_loan 5 = .ok (.ifCond .eq 12, 3) := by decide +kernel
theorem dX6_loan_8 : decode cX6_loan 8 = .ok (.iload_n 2, 1) := by decide +kernel
theorem dX6_loan_9 : decode cX6_loan 9 = .ok (.iconst 0, 1) := by decide +kernel
theorem dX6_loan_10 : decode cX6_loan 10 = .ok (.iconst 2, 1) := by decide +kernel
theorem dX6_loan_11 : decode cX6_loan 11 = .ok (.invokestatic 41, 3) := by decide +kernel
theorem dX6_loan_14 : decode cX6_loan 14 = .ok (.ifCond .ne 6, 3) := by decide +kernel
theorem dX6_loan_17 : decode cX6_loan 17 = .ok (.ldc 45, 2) := by decide +kernel
theorem dX6_loan_19 : decode cX6_loan 19 = .ok (.ireturn, 1) := by decide +kernel
theorem dX6_loan_20 : decode cX6_loan 20 = .ok (.aload_n 0, 1) := by decide +kernel
theorem dX6_loan_21 : decode cX6_loan 21 = .ok (.getfield 10, 3) := by decide +kernel
theorem dX6_loan_24 : decode cX6_loan 24 = .ok (.getfield 80, 3) := by decide +kernel
theorem dX6_loan_27 : decode cX6_loan 27 = .ok (.iload_n 1, 1) := by decide +kernel
theorem dX6_loan_28 : decode cX6_loan 28 = .ok (.iload_n 2, 1) := by decide +kernel
theorem dX6_loan_29 : decode cX6_loan 29 = .ok (.invokevirtual 197, 3) := by decide +kernel
theorem dX6_loan_32 : decode cX6_loan 32 = .ok (.ireturn, 1) := by decide +kernel
theorem dX6_battery_0 : decode cX6_battery 0 = .ok (.iload_n 1, 1) := by decide +kernel
theorem dX6_battery_1 : decode cX6_battery 1 = .ok (.invokestatic 127, 3) := by decide +kernel
theorem dX6_battery_4 : decode cX6_battery 4 = .ok (.ifCond .eq 12, 3) := by decide +kernel
theorem dX6_battery_7 : decode cX6_battery 7 = .ok (.iload_n 2, 1) := by decide +kernel
theorem dX6_battery_8 : decode cX6_battery 8 = .ok (.iconst 0, 1) := by decide +kernel
theorem dX6_battery_9 : decode cX6_battery 9 = .ok (.iconst 4, 1) := by decide +kernel
theorem dX6_battery_10 : decode cX6_battery 10 = .ok (.invokestatic 41, 3) := by decide +kernel
theorem dX6_battery_13 : decode cX6_battery 13 = .ok (.ifCond .ne 6, 3) := by decide +kernel
theorem dX6_battery_16 : decode cX6_battery 16 = .ok (.ldc 45, 2) := by decide +kernel
theorem dX6_battery_18 : decode cX6_battery 18 = .ok (.ireturn, 1) := by decide +kernel
theorem dX6_battery_19 : decode cX6_battery 19 = .ok (.aload_n 0, 1) := by decide +kernel
theorem dX6_battery_20 : decode cX6_battery 20 = .ok (.getfield 10, 3) := by decide +kernel
theorem dX6_battery_23 : decode cX6_battery 23 = .ok (.getfield 136, 3) := by decide +kernel
theorem dX6_battery_26 : decode cX6_battery 26 = .ok (.iload_n 1, 1) := by decide +kernel
theorem dX6_battery_27 : decode cX6_battery 27 = .ok (.iload_n 2, 1) := by decide +kernel
theorem dX6_battery_28 : decode cX6_battery 28 = .ok (.invokevirtual 140, 3) := by decide +kernel
theorem dX6_battery_31 : decode cX6_battery 31 = .ok (.ireturn, 1) := by decide +kernel
theorem dX6_feeder_0 : decode cX6_feeder 0 = .ok (.iload_n 1, 1) := by decide +kernel
theorem dX6_feeder_1 : decode cX6_feeder 1 = .ok (.iconst 0, 1) := by decide +kernel
theorem dX6_feeder_2 : decode cX6_feeder 2 = .ok (.iconst 2, 1) := by decide +kernel
theorem dX6_feeder_3 : decode cX6_feeder 3 = .ok (.invokestatic 41, 3) := by decide +kernel
theorem dX6_feeder_6 : decode cX6_feeder 6 = .ok (.ifCond .eq 12, 3) := by decide +kernel
theorem dX6_feeder_9 : decode cX6_feeder 9 = .ok (.iload_n 2, 1) := by decide +kernel
theorem dX6_feeder_10 : decode cX6_feeder 10 = .ok (.iconst 0, 1) := by decide +kernel
theorem dX6_feeder_11 : decode cX6_feeder 11 = .ok (.iconst 4, 1) := by decide +kernel
theorem dX6_feeder_12 : decode cX6_feeder 12 = .ok (.invokestatic 41, 3) := by decide +kernel
theorem dX6_feeder_15 : decode cX6_feeder 15 = .ok (.ifCond .ne 6, 3) := by decide +kernel
theorem dX6_feeder_18 : decode cX6_feeder 18 = .ok (.ldc 45, 2) := by decide +kernel
theorem dX6_feeder_20 : decode cX6_feeder 20 = .ok (.ireturn, 1) := by decide +kernel
theorem dX6_feeder_21 : decode cX6_feeder 21 = .ok (.iload_n 2, 1) := by decide +kernel
theorem dX6_feeder_22 : decode cX6_feeder 22 = .ok (.tableswitch 95 0 3 #[30, 42, 63, 85], 30) := by decide +kernel
theorem dX6_feeder_52 : decode cX6_feeder 52 = .ok (.aload_n 0, 1) := by decide +kernel
theorem dX6_feeder_53 : decode cX6_feeder 53 = .ok (.getfield 10, 3) := by decide +kernel
theorem dX6_feeder_56 : decode cX6_feeder 56 = .ok (.getfield 46, 3) := by decide +kernel
theorem dX6_feeder_59 : decode cX6_feeder 59 = .ok (.iload_n 1, 1) := by decide +kernel
theorem dX6_feeder_60 : decode cX6_feeder 60 = .ok (.invokevirtual 198, 3) := by decide +kernel
theorem dX6_feeder_63 : decode cX6_feeder 63 = .ok (.ireturn, 1) := by decide +kernel
theorem dX6_feeder_64 : decode cX6_feeder 64 = .ok (.aload_n 0, 1) := by decide +kernel
theorem dX6_feeder_65 : decode cX6_feeder 65 = .ok (.getfield 10, 3) := by decide +kernel
theorem dX6_feeder_68 : decode cX6_feeder 68 = .ok (.getfield 46, 3) := by decide +kernel
theorem dX6_feeder_71 : decode cX6_feeder 71 = .ok (.iload_n 1, 1) := by decide +kernel
theorem dX6_feeder_72 : decode cX6_feeder 72 = .ok (.aload_n 0, 1) := by decide +kernel
theorem dX6_feeder_73 : decode cX6_feeder 73 = .ok (.getfield 10, 3) := by decide +kernel
theorem dX6_feeder_76 : decode cX6_feeder 76 = .ok (.getfield 124, 3) := by decide +kernel
theorem dX6_feeder_79 : decode cX6_feeder 79 = .ok (.iconst 0, 1) := by decide +kernel
theorem dX6_feeder_80 : decode cX6_feeder 80 = .ok (.iaload, 1) := by decide +kernel
theorem dX6_feeder_81 : decode cX6_feeder 81 = .ok (.invokevirtual 201, 3) := by decide +kernel
theorem dX6_feeder_84 : decode cX6_feeder 84 = .ok (.ireturn, 1) := by decide +kernel
theorem dX6_feeder_85 : decode cX6_feeder 85 = .ok (.aload_n 0, 1) := by decide +kernel
theorem dX6_feeder_86 : decode cX6_feeder 86 = .ok (.getfield 10, 3) := by decide +kernel
theorem dX6_feeder_89 : decode cX6_feeder 89 = .ok (.getfield 46, 3) := by decide +kernel
theorem dX6_feeder_92 : decode cX6_feeder 92 = .ok (.iload_n 1, 1) := by decide +kernel
theorem dX6_feeder_93 : decode cX6_feeder 93 = .ok (.aload_n 0, 1) := by decide +kernel
theorem dX6_feeder_94 : decode cX6_feeder 94 = .ok (.getfield 10, 3) := by decide +kernel
theorem dX6_feeder_97 : decode cX6_feeder 97 = .ok (.getfield 46, 3) := by decide +kernel
theorem dX6_feeder_100 : decode cX6_feeder 100 = .ok (.getfield 101, 3) := by decide +kernel
theorem dX6_feeder_103 : decode cX6_feeder 103 = .ok (.invokevirtual 204, 3) := by decide +kernel
theorem dX6_feeder_106 : decode cX6_feeder 106 = .ok (.ireturn, 1) := by decide +kernel
theorem dX6_feeder_107 : decode cX6_feeder 107 = .ok (.aload_n 0, 1) := by decide +kernel
theorem dX6_feeder_108 : decode cX6_feeder 108 = .ok (.getfield 10, 3) := by decide +kernel
theorem dX6_feeder_111 : decode cX6_feeder 111 = .ok (.getfield 208, 3) := by decide +kernel
theorem dX6_feeder_114 : decode cX6_feeder 114 = .ok (.iload_n 1, 1) := by decide +kernel
theorem dX6_feeder_115 : decode cX6_feeder 115 = .ok (.iaload, 1) := by decide +kernel
theorem dX6_feeder_116 : decode cX6_feeder 116 = .ok (.ireturn, 1) := by decide +kernel
theorem dX6_feeder_117 : decode cX6_feeder 117 = .ok (.aload_n 0, 1) := by decide +kernel
theorem dX6_feeder_118 : decode cX6_feeder 118 = .ok (.getfield 10, 3) := by decide +kernel
theorem dX6_feeder_121 : decode cX6_feeder 121 = .ok (.getfield 211, 3) := by decide +kernel
theorem dX6_feeder_124 : decode cX6_feeder 124 = .ok (.iload_n 1, 1) := by decide +kernel
theorem dX6_feeder_125 : decode cX6_feeder 125 = .ok (.iaload, 1) := by decide +kernel
theorem dX6_feeder_126 : decode cX6_feeder 126 = .ok (.ireturn, 1) := by decide +kernel
theorem dX6_account_0 : decode cX6_account 0 = .ok (.iload_n 1, 1) := by decide +kernel
theorem dX6_account_1 : decode cX6_account 1 = .ok (.iconst 0, 1) := by decide +kernel
theorem dX6_account_2 : decode cX6_account 2 = .ok (.bipush 7, 2) := by decide +kernel
theorem dX6_account_4 : decode cX6_account 4 = .ok (.invokestatic 41, 3) := by decide +kernel
theorem dX6_account_7 : decode cX6_account 7 = .ok (.ifCond .ne 6, 3) := by decide +kernel
theorem dX6_account_10 : decode cX6_account 10 = .ok (.ldc 45, 2) := by decide +kernel
theorem dX6_account_12 : decode cX6_account 12 = .ok (.ireturn, 1) := by decide +kernel
theorem dX6_account_13 : decode cX6_account 13 = .ok (.iload_n 1, 1) := by decide +kernel
theorem dX6_account_14 : decode cX6_account 14 = .ok (.iconst 5, 1) := by decide +kernel
theorem dX6_account_15 : decode cX6_account 15 = .ok (.if_icmp .ne 16, 3) := by decide +kernel
theorem dX6_account_18 : decode cX6_account 18 = .ok (.aload_n 0, 1) := by decide +kernel
theorem dX6_account_19 : decode cX6_account 19 = .ok (.getfield 10, 3) := by decide +kernel
theorem dX6_account_22 : decode cX6_account 22 = .ok (.getfield 136, 3) := by decide +kernel
theorem dX6_account_25 : decode cX6_account 25 = .ok (.invokevirtual 214, 3) := by decide +kernel
theorem dX6_account_28 : decode cX6_account 28 = .ok (.goto 12, 3) := by decide +kernel
theorem dX6_account_31 : decode cX6_account 31 = .ok (.aload_n 0, 1) := by decide +kernel
theorem dX6_account_32 : decode cX6_account 32 = .ok (.getfield 10, 3) := by decide +kernel
theorem dX6_account_35 : decode cX6_account 35 = .ok (.getfield 144, 3) := by decide +kernel
theorem dX6_account_38 : decode cX6_account 38 = .ok (.iload_n 1, 1) := by decide +kernel
theorem dX6_account_39 : decode cX6_account 39 = .ok (.iaload, 1) := by decide +kernel
theorem dX6_account_40 : decode cX6_account 40 = .ok (.ireturn, 1) := by decide +kernel
theorem dX6_count_0 : decode cX6_count 0 = .ok (.iload_n 1, 1) := by decide +kernel
theorem dX6_count_1 : decode cX6_count 1 = .ok (.tableswitch 142 0 7 #[47, 58, 69, 77, 85, 93, 101, 131], 47) := by decide +kernel
theorem dX6_count_48 : decode cX6_count 48 = .ok (.aload_n 0, 1) := by decide +kernel
theorem dX6_count_49 : decode cX6_count 49 = .ok (.getfield 10, 3) := by decide +kernel
theorem dX6_count_52 : decode cX6_count 52 = .ok (.getfield 46, 3) := by decide +kernel
theorem dX6_count_55 : decode cX6_count 55 = .ok (.getfield 50, 3) := by decide +kernel
theorem dX6_count_58 : decode cX6_count 58 = .ok (.ireturn, 1) := by decide +kernel
theorem dX6_count_59 : decode cX6_count 59 = .ok (.aload_n 0, 1) := by decide +kernel
theorem dX6_count_60 : decode cX6_count 60 = .ok (.getfield 10, 3) := by decide +kernel
theorem dX6_count_63 : decode cX6_count 63 = .ok (.getfield 80, 3) := by decide +kernel
theorem dX6_count_66 : decode cX6_count 66 = .ok (.getfield 104, 3) := by decide +kernel
theorem dX6_count_69 : decode cX6_count 69 = .ok (.ireturn, 1) := by decide +kernel
theorem dX6_count_70 : decode cX6_count 70 = .ok (.aload_n 0, 1) := by decide +kernel
theorem dX6_count_71 : decode cX6_count 71 = .ok (.getfield 10, 3) := by decide +kernel
theorem dX6_count_74 : decode cX6_count 74 = .ok (.getfield 185, 3) := by decide +kernel
theorem dX6_count_77 : decode cX6_count 77 = .ok (.ireturn, 1) := by decide +kernel
theorem dX6_count_78 : decode cX6_count 78 = .ok (.aload_n 0, 1) := by decide +kernel
theorem dX6_count_79 : decode cX6_count 79 = .ok (.getfield 10, 3) := by decide +kernel
theorem dX6_count_82 : decode cX6_count 82 = .ok (.getfield 172, 3) := by decide +kernel
theorem dX6_count_85 : decode cX6_count 85 = .ok (.ireturn, 1) := by decide +kernel
theorem dX6_count_86 : decode cX6_count 86 = .ok (.aload_n 0, 1) := by decide +kernel
theorem dX6_count_87 : decode cX6_count 87 = .ok (.getfield 10, 3) := by decide +kernel
theorem dX6_count_90 : decode cX6_count 90 = .ok (.getfield 220, 3) := by decide +kernel
theorem dX6_count_93 : decode cX6_count 93 = .ok (.ireturn, 1) := by decide +kernel
theorem dX6_count_94 : decode cX6_count 94 = .ok (.aload_n 0, 1) := by decide +kernel
theorem dX6_count_95 : decode cX6_count 95 = .ok (.getfield 22, 3) := by decide +kernel
theorem dX6_count_98 : decode cX6_count 98 = .ok (.getfield 175, 3) := by decide +kernel
theorem dX6_count_101 : decode cX6_count 101 = .ok (.ireturn, 1) := by decide +kernel
theorem dX6_count_102 : decode cX6_count 102 = .ok (.aload_n 0, 1) := by decide +kernel
theorem dX6_count_103 : decode cX6_count 103 = .ok (.getfield 30, 3) := by decide +kernel
theorem dX6_count_106 : decode cX6_count 106 = .ok (.iconst 0, 1) := by decide +kernel
theorem dX6_count_107 : decode cX6_count 107 = .ok (.baload, 1) := by decide +kernel
theorem dX6_count_108 : decode cX6_count 108 = .ok (.ifCond .eq 7, 3) := by decide +kernel
theorem dX6_count_111 : decode cX6_count 111 = .ok (.iconst 1, 1) := by decide +kernel
theorem dX6_count_112 : decode cX6_count 112 = .ok (.goto 4, 3) := by decide +kernel
theorem dX6_count_115 : decode cX6_count 115 = .ok (.iconst 0, 1) := by decide +kernel
theorem dX6_count_116 : decode cX6_count 116 = .ok (.aload_n 0, 1) := by decide +kernel
theorem dX6_count_117 : decode cX6_count 117 = .ok (.getfield 30, 3) := by decide +kernel
theorem dX6_count_120 : decode cX6_count 120 = .ok (.iconst 1, 1) := by decide +kernel
theorem dX6_count_121 : decode cX6_count 121 = .ok (.baload, 1) := by decide +kernel
theorem dX6_count_122 : decode cX6_count 122 = .ok (.ifCond .eq 7, 3) := by decide +kernel
theorem dX6_count_125 : decode cX6_count 125 = .ok (.iconst 2, 1) := by decide +kernel
theorem dX6_count_126 : decode cX6_count 126 = .ok (.goto 4, 3) := by decide +kernel
theorem dX6_count_129 : decode cX6_count 129 = .ok (.iconst 0, 1) := by decide +kernel
theorem dX6_count_130 : decode cX6_count 130 = .ok (.iadd, 1) := by decide +kernel
theorem dX6_count_131 : decode cX6_count 131 = .ok (.ireturn, 1) := by decide +kernel
theorem dX6_count_132 : decode cX6_count 132 = .ok (.aload_n 0, 1) := by decide +kernel
theorem dX6_count_133 : decode cX6_count 133 = .ok (.getfield 10, 3) := by decide +kernel
theorem dX6_count_136 : decode cX6_count 136 = .ok (.getfield 46, 3) := by decide +kernel
theorem dX6_count_139 : decode cX6_count 139 = .ok (.invokevirtual 223, 3) := by decide +kernel
theorem dX6_count_142 : decode cX6_count 142 = .ok (.ireturn, 1) := by decide +kernel
theorem dX6_count_143 : decode cX6_count 143 = .ok (.ldc 45, 2) := by decide +kernel
theorem dX6_count_145 : decode cX6_count 145 = .ok (.ireturn, 1) := by decide +kernel
theorem dX6_setting_0 : decode cX6_setting 0 = .ok (.iload_n 1, 1) := by decide +kernel
theorem dX6_setting_1 : decode cX6_setting 1 = .ok (.invokestatic 118, 3) := by decide +kernel
theorem dX6_setting_4 : decode cX6_setting 4 = .ok (.ifCond .eq 15, 3) := by decide +kernel
theorem dX6_setting_7 : decode cX6_setting 7 = .ok (.aload_n 0, 1) := by decide +kernel
theorem dX6_setting_8 : decode cX6_setting 8 = .ok (.getfield 10, 3) := by decide +kernel
theorem dX6_setting_11 : decode cX6_setting 11 = .ok (.getfield 124, 3) := by decide +kernel
theorem dX6_setting_14 : decode cX6_setting 14 = .ok (.iload_n 1, 1) := by decide +kernel
theorem dX6_setting_15 : decode cX6_setting 15 = .ok (.iaload, 1) := by decide +kernel
theorem dX6_setting_16 : decode cX6_setting 16 = .ok (.goto 5, 3) := by decide +kernel
theorem dX6_setting_19 : decode cX6_setting 19 = .ok (.ldc 45, 2) := by decide +kernel
theorem dX6_setting_21 : decode cX6_setting 21 = .ok (.ireturn, 1) := by decide +kernel
theorem dX6_met_0 : decode cX6_met 0 = .ok (.aload_n 0, 1) := by decide +kernel
theorem dX6_met_1 : decode cX6_met 1 = .ok (.getfield 10, 3) := by decide +kernel
theorem dX6_met_4 : decode cX6_met 4 = .ok (.getfield 46, 3) := by decide +kernel
theorem dX6_met_7 : decode cX6_met 7 = .ok (.aload_n 0, 1) := by decide +kernel
theorem dX6_met_8 : decode cX6_met 8 = .ok (.getfield 10, 3) := by decide +kernel
theorem dX6_met_11 : decode cX6_met 11 = .ok (.getfield 46, 3) := by decide +kernel
theorem dX6_met_14 : decode cX6_met 14 = .ok (.getfield 241, 3) := by decide +kernel
theorem dX6_met_17 : decode cX6_met 17 = .ok (.invokevirtual 244, 3) := by decide +kernel
theorem dX6_met_20 : decode cX6_met 20 = .ok (.istore_n 1, 1) := by decide +kernel
theorem dX6_met_21 : decode cX6_met 21 = .ok (.iload_n 1, 1) := by decide +kernel
theorem dX6_met_22 : decode cX6_met 22 = .ok (.ifCond .le 30, 3) := by decide +kernel
theorem dX6_met_25 : decode cX6_met 25 = .ok (.aload_n 0, 1) := by decide +kernel
theorem dX6_met_26 : decode cX6_met 26 = .ok (.getfield 10, 3) := by decide +kernel
theorem dX6_met_29 : decode cX6_met 29 = .ok (.getfield 46, 3) := by decide +kernel
theorem dX6_met_32 : decode cX6_met 32 = .ok (.aload_n 0, 1) := by decide +kernel
theorem dX6_met_33 : decode cX6_met 33 = .ok (.getfield 10, 3) := by decide +kernel
theorem dX6_met_36 : decode cX6_met 36 = .ok (.getfield 46, 3) := by decide +kernel
theorem dX6_met_39 : decode cX6_met 39 = .ok (.getfield 248, 3) := by decide +kernel
theorem dX6_met_42 : decode cX6_met 42 = .ok (.invokevirtual 244, 3) := by decide +kernel
theorem dX6_met_45 : decode cX6_met 45 = .ok (.i2d, 1) := by decide +kernel
theorem dX6_met_46 : decode cX6_met 46 = .ok (.iload_n 1, 1) := by decide +kernel
theorem dX6_met_47 : decode cX6_met 47 = .ok (.i2d, 1) := by decide +kernel
theorem dX6_met_48 : decode cX6_met 48 = .ok (.ddiv, 1) := by decide +kernel
theorem dX6_met_49 : decode cX6_met 49 = .ok (.goto 4, 3) := by decide +kernel
theorem dX6_met_52 : decode cX6_met 52 = .ok (.dconst 1, 1) := by decide +kernel
theorem dX6_met_53 : decode cX6_met 53 = .ok (.dreturn, 1) := by decide +kernel
theorem dX6_within_0 : decode cX6_within 0 = .ok (.iload_n 0, 1) := by decide +kernel
theorem dX6_within_1 : decode cX6_within 1 = .ok (.iload_n 1, 1) := by decide +kernel
theorem dX6_within_2 : decode cX6_within 2 = .ok (.if_icmp .lt 12, 3) := by decide +kernel
theorem dX6_within_5 : decode cX6_within 5 = .ok (.iload_n 0, 1) := by decide +kernel
theorem dX6_within_6 : decode cX6_within 6 = .ok (.iload_n 2, 1) := by decide +kernel
theorem dX6_within_7 : decode cX6_within 7 = .ok (.if_icmp .gt 7, 3) := by decide +kernel
theorem dX6_within_10 : decode cX6_within 10 = .ok (.iconst 1, 1) := by decide +kernel
theorem dX6_within_11 : decode cX6_within 11 = .ok (.goto 4, 3) := by decide +kernel
theorem dX6_within_14 : decode cX6_within 14 = .ok (.iconst 0, 1) := by decide +kernel
theorem dX6_within_15 : decode cX6_within 15 = .ok (.ireturn, 1) := by decide +kernel
theorem dX6_isHouse_0 : decode cX6_isHouse 0 = .ok (.iload_n 1, 1) := by decide +kernel
theorem dX6_isHouse_1 : decode cX6_isHouse 1 = .ok (.iconst 0, 1) := by decide +kernel
theorem dX6_isHouse_2 : decode cX6_isHouse 2 = .ok (.aload_n 0, 1) := by decide +kernel
theorem dX6_isHouse_3 : decode cX6_isHouse 3 = .ok (.getfield 10, 3) := by decide +kernel
theorem dX6_isHouse_6 : decode cX6_isHouse 6 = .ok (.getfield 46, 3) := by decide +kernel
theorem dX6_isHouse_9 : decode cX6_isHouse 9 = .ok (.getfield 50, 3) := by decide +kernel
theorem dX6_isHouse_12 : decode cX6_isHouse 12 = .ok (.iconst 1, 1) := by decide +kernel
theorem dX6_isHouse_13 : decode cX6_isHouse 13 = .ok (.isub, 1) := by decide +kernel
theorem dX6_isHouse_14 : decode cX6_isHouse 14 = .ok (.invokestatic 41, 3) := by decide +kernel
theorem dX6_isHouse_17 : decode cX6_isHouse 17 = .ok (.ireturn, 1) := by decide +kernel
theorem dX6_isLoan_0 : decode cX6_isLoan 0 = .ok (.iload_n 1, 1) := by decide +kernel
theorem dX6_isLoan_1 : decode cX6_isLoan 1 = .ok (.iconst 0, 1) := by decide +kernel
theorem dX6_isLoan_2 : decode cX6_isLoan 2 = .ok (.aload_n 0, 1) := by decide +kernel
theorem dX6_isLoan_3 : decode cX6_isLoan 3 = .ok (.getfield 10, 3) := by decide +kernel
theorem dX6_isLoan_6 : decode cX6_isLoan 6 = .ok (.getfield 80, 3) := by decide +kernel
theorem dX6_isLoan_9 : decode cX6_isLoan 9 = .ok (.getfield 104, 3) := by decide +kernel
theorem dX6_isLoan_12 : decode cX6_isLoan 12 = .ok (.iconst 1, 1) := by decide +kernel
theorem dX6_isLoan_13 : decode cX6_isLoan 13 = .ok (.isub, 1) := by decide +kernel
theorem dX6_isLoan_14 : decode cX6_isLoan 14 = .ok (.invokestatic 41, 3) := by decide +kernel
theorem dX6_isLoan_17 : decode cX6_isLoan 17 = .ok (.ireturn, 1) := by decide +kernel
theorem dX6_isBattery_0 : decode cX6_isBattery 0 = .ok (.iload_n 0, 1) := by decide +kernel
theorem dX6_isBattery_1 : decode cX6_isBattery 1 = .ok (.iconst 0, 1) := by decide +kernel
theorem dX6_isBattery_2 : decode cX6_isBattery 2 = .ok (.iconst 1, 1) := by decide +kernel
theorem dX6_isBattery_3 : decode cX6_isBattery 3 = .ok (.invokestatic 41, 3) := by decide +kernel
theorem dX6_isBattery_6 : decode cX6_isBattery 6 = .ok (.ireturn, 1) := by decide +kernel
theorem dX6_isSetting_0 : decode cX6_isSetting 0 = .ok (.iload_n 0, 1) := by decide +kernel
theorem dX6_isSetting_1 : decode cX6_isSetting 1 = .ok (.iconst 0, 1) := by decide +kernel
theorem dX6_isSetting_2 : decode cX6_isSetting 2 = .ok (.iconst 3, 1) := by decide +kernel
theorem dX6_isSetting_3 : decode cX6_isSetting 3 = .ok (.invokestatic 41, 3) := by decide +kernel
theorem dX6_isSetting_6 : decode cX6_isSetting 6 = .ok (.ireturn, 1) := by decide +kernel
theorem dL_cell_0 : decode cL_cell 0 = .ok (.iload_n 1, 1) := by decide +kernel
theorem dL_cell_1 : decode cL_cell 1 = .ok (.aload_n 0, 1) := by decide +kernel
theorem dL_cell_2 : decode cL_cell 2 = .ok (.arraylength, 1) := by decide +kernel
theorem dL_cell_3 : decode cL_cell 3 = .ok (.if_icmp .ge 9, 3) := by decide +kernel
theorem dL_cell_6 : decode cL_cell 6 = .ok (.aload_n 0, 1) := by decide +kernel
theorem dL_cell_7 : decode cL_cell 7 = .ok (.iload_n 1, 1) := by decide +kernel
theorem dL_cell_8 : decode cL_cell 8 = .ok (.iaload, 1) := by decide +kernel
theorem dL_cell_9 : decode cL_cell 9 = .ok (.goto 10, 3) := by decide +kernel
theorem dL_cell_12 : decode cL_cell 12 = .ok (.ldc 7, 2) := by decide +kernel
theorem dL_cell_14 : decode cL_cell 14 = .ok (.iload_n 1, 1) := by decide +kernel
theorem dL_cell_15 : decode cL_cell 15 = .ok (.bipush 97, 2) := by decide +kernel
theorem dL_cell_17 : decode cL_cell 17 = .ok (.iadd, 1) := by decide +kernel
theorem dL_cell_18 : decode cL_cell 18 = .ok (.imul, 1) := by decide +kernel
theorem dL_cell_19 : decode cL_cell 19 = .ok (.ireturn, 1) := by decide +kernel
theorem dL_at_0 : decode cL_at 0 = .ok (.iload_n 0, 1) := by decide +kernel
theorem dL_at_1 : decode cL_at 1 = .ok (.iconst 1, 1) := by decide +kernel
theorem dL_at_2 : decode cL_at 2 = .ok (.iushr, 1) := by decide +kernel
theorem dL_at_3 : decode cL_at 3 = .ok (.iload_n 1, 1) := by decide +kernel
theorem dL_at_4 : decode cL_at 4 = .ok (.irem, 1) := by decide +kernel
theorem dL_at_5 : decode cL_at 5 = .ok (.ireturn, 1) := by decide +kernel
theorem dL_draw_0 : decode cL_draw 0 = .ok (.bipush 6, 2) := by decide +kernel
theorem dL_draw_2 : decode cL_draw 2 = .ok (.iload_n 0, 1) := by decide +kernel
theorem dL_draw_3 : decode cL_draw 3 = .ok (.imul, 1) := by decide +kernel
theorem dL_draw_4 : decode cL_draw 4 = .ok (.istore_n 3, 1) := by decide +kernel
theorem dL_draw_5 : decode cL_draw 5 = .ok (.aload_n 2, 1) := by decide +kernel
theorem dL_draw_6 : decode cL_draw 6 = .ok (.iload_n 3, 1) := by decide +kernel
theorem dL_draw_7 : decode cL_draw 7 = .ok (.iconst 3, 1) := by decide +kernel
theorem dL_draw_8 : decode cL_draw 8 = .ok (.iadd, 1) := by decide +kernel
theorem dL_draw_9 : decode cL_draw 9 = .ok (.iaload, 1) := by decide +kernel
theorem dL_draw_10 : decode cL_draw 10 = .ok (.ifCond .eq 15, 3) := by decide +kernel
theorem dL_draw_13 : decode cL_draw 13 = .ok (.aload_n 2, 1) := by decide +kernel
theorem dL_draw_14 : decode cL_draw 14 = .ok (.iload_n 3, 1) := by decide +kernel
theorem dL_draw_15 : decode cL_draw 15 = .ok (.iconst 4, 1) := by decide +kernel
theorem dL_draw_16 : decode cL_draw 16 = .ok (.iadd, 1) := by decide +kernel
theorem dL_draw_17 : decode cL_draw 17 = .ok (.iaload, 1) := by decide +kernel
theorem dL_draw_18 : decode cL_draw 18 = .ok (.aload_n 1, 1) := by decide +kernel
theorem dL_draw_19 : decode cL_draw 19 = .ok (.iconst 4, 1) := by decide +kernel
theorem dL_draw_20 : decode cL_draw 20 = .ok (.iaload, 1) := by decide +kernel
theorem dL_draw_21 : decode cL_draw 21 = .ok (.iadd, 1) := by decide +kernel
theorem dL_draw_22 : decode cL_draw 22 = .ok (.ifCond .ge 5, 3) := by decide +kernel
theorem dL_draw_25 : decode cL_draw 25 = .ok (.iconst 0, 1) := by decide +kernel
theorem dL_draw_26 : decode cL_draw 26 = .ok (.ireturn, 1) := by decide +kernel
theorem dL_draw_27 : decode cL_draw 27 = .ok (.aload_n 2, 1) := by decide +kernel
theorem dL_draw_28 : decode cL_draw 28 = .ok (.iload_n 3, 1) := by decide +kernel
theorem dL_draw_29 : decode cL_draw 29 = .ok (.iconst 4, 1) := by decide +kernel
theorem dL_draw_30 : decode cL_draw 30 = .ok (.iadd, 1) := by decide +kernel
theorem dL_draw_31 : decode cL_draw 31 = .ok (.iaload, 1) := by decide +kernel
theorem dL_draw_32 : decode cL_draw 32 = .ok (.aload_n 1, 1) := by decide +kernel
theorem dL_draw_33 : decode cL_draw 33 = .ok (.iconst 4, 1) := by decide +kernel
theorem dL_draw_34 : decode cL_draw 34 = .ok (.iaload, 1) := by decide +kernel
theorem dL_draw_35 : decode cL_draw 35 = .ok (.iadd, 1) := by decide +kernel
theorem dL_draw_36 : decode cL_draw 36 = .ok (.aload_n 2, 1) := by decide +kernel
theorem dL_draw_37 : decode cL_draw 37 = .ok (.iload_n 3, 1) := by decide +kernel
theorem dL_draw_38 : decode cL_draw 38 = .ok (.iconst 1, 1) := by decide +kernel
theorem dL_draw_39 : decode cL_draw 39 = .ok (.iadd, 1) := by decide +kernel
theorem dL_draw_40 : decode cL_draw 40 = .ok (.iaload, 1) := by decide +kernel
theorem dL_draw_41 : decode cL_draw 41 = .ok (.if_icmp .ge 15, 3) := by decide +kernel
theorem dL_draw_44 : decode cL_draw 44 = .ok (.aload_n 2, 1) := by decide +kernel
theorem dL_draw_45 : decode cL_draw 45 = .ok (.iload_n 3, 1) := by decide +kernel
theorem dL_draw_46 : decode cL_draw 46 = .ok (.iconst 4, 1) := by decide +kernel
theorem dL_draw_47 : decode cL_draw 47 = .ok (.iadd, 1) := by decide +kernel
theorem dL_draw_48 : decode cL_draw 48 = .ok (.iaload, 1) := by decide +kernel
theorem dL_draw_49 : decode cL_draw 49 = .ok (.aload_n 1, 1) := by decide +kernel
theorem dL_draw_50 : decode cL_draw 50 = .ok (.iconst 4, 1) := by decide +kernel
theorem dL_draw_51 : decode cL_draw 51 = .ok (.iaload, 1) := by decide +kernel
theorem dL_draw_52 : decode cL_draw 52 = .ok (.iadd, 1) := by decide +kernel
theorem dL_draw_53 : decode cL_draw 53 = .ok (.goto 8, 3) := by decide +kernel
theorem dL_draw_56 : decode cL_draw 56 = .ok (.aload_n 2, 1) := by decide +kernel
theorem dL_draw_57 : decode cL_draw 57 = .ok (.iload_n 3, 1) := by decide +kernel
theorem dL_draw_58 : decode cL_draw 58 = .ok (.iconst 1, 1) := by decide +kernel
theorem dL_draw_59 : decode cL_draw 59 = .ok (.iadd, 1) := by decide +kernel
theorem dL_draw_60 : decode cL_draw 60 = .ok (.iaload, 1) := by decide +kernel
theorem dL_draw_61 : decode cL_draw 61 = .ok (.ireturn, 1) := by decide +kernel
theorem dL_give_0 : decode cL_give 0 = .ok (.aload_n 1, 1) := by decide +kernel
theorem dL_give_1 : decode cL_give 1 = .ok (.iconst 4, 1) := by decide +kernel
theorem dL_give_2 : decode cL_give 2 = .ok (.iload_n 0, 1) := by decide +kernel
theorem dL_give_3 : decode cL_give 3 = .ok (.imul, 1) := by decide +kernel
theorem dL_give_4 : decode cL_give 4 = .ok (.iconst 3, 1) := by decide +kernel
theorem dL_give_5 : decode cL_give 5 = .ok (.iadd, 1) := by decide +kernel
theorem dL_give_6 : decode cL_give 6 = .ok (.iaload, 1) := by decide +kernel
theorem dL_give_7 : decode cL_give 7 = .ok (.aload_n 1, 1) := by decide +kernel
theorem dL_give_8 : decode cL_give 8 = .ok (.iconst 4, 1) := by decide +kernel
theorem dL_give_9 : decode cL_give 9 = .ok (.iload_n 0, 1) := by decide +kernel
theorem dL_give_10 : decode cL_give 10 = .ok (.imul, 1) := by decide +kernel
theorem dL_give_11 : decode cL_give 11 = .ok (.iconst 1, 1) := by decide +kernel
theorem dL_give_12 : decode cL_give 12 = .ok (.iadd, 1) := by decide +kernel
theorem dL_give_13 : decode cL_give 13 = .ok (.iaload, 1) := by decide +kernel
theorem dL_give_14 : decode cL_give 14 = .ok (.if_icmp .le 13, 3) := by decide +kernel
theorem dL_give_17 : decode cL_give 17 = .ok (.aload_n 1, 1) := by decide +kernel
theorem dL_give_18 : decode cL_give 18 = .ok (.iconst 4, 1) := by decide +kernel
theorem dL_give_19 : decode cL_give 19 = .ok (.iload_n 0, 1) := by decide +kernel
theorem dL_give_20 : decode cL_give 20 = .ok (.imul, 1) := by decide +kernel
theorem dL_give_21 : decode cL_give 21 = .ok (.iconst 1, 1) := by decide +kernel
theorem dL_give_22 : decode cL_give 22 = .ok (.iadd, 1) := by decide +kernel
theorem dL_give_23 : decode cL_give 23 = .ok (.iaload, 1) := by decide +kernel
theorem dL_give_24 : decode cL_give 24 = .ok (.goto 10, 3) := by decide +kernel
theorem dL_give_27 : decode cL_give 27 = .ok (.aload_n 1, 1) := by decide +kernel
theorem dL_give_28 : decode cL_give 28 = .ok (.iconst 4, 1) := by decide +kernel
theorem dL_give_29 : decode cL_give 29 = .ok (.iload_n 0, 1) := by decide +kernel
theorem dL_give_30 : decode cL_give 30 = .ok (.imul, 1) := by decide +kernel
theorem dL_give_31 : decode cL_give 31 = .ok (.iconst 3, 1) := by decide +kernel
theorem dL_give_32 : decode cL_give 32 = .ok (.iadd, 1) := by decide +kernel
theorem dL_give_33 : decode cL_give 33 = .ok (.iaload, 1) := by decide +kernel
theorem dL_give_34 : decode cL_give 34 = .ok (.ireturn, 1) := by decide +kernel
theorem dL_wants_0 : decode cL_wants 0 = .ok (.iconst 0, 1) := by decide +kernel
theorem dL_wants_1 : decode cL_wants 1 = .ok (.istore 4, 2) := by decide +kernel
theorem dL_wants_3 : decode cL_wants 3 = .ok (.iconst 0, 1) := by decide +kernel
theorem dL_wants_4 : decode cL_wants 4 = .ok (.istore 5, 2) := by decide +kernel
theorem dL_wants_6 : decode cL_wants 6 = .ok (.iload 5, 2) := by decide +kernel
theorem dL_wants_8 : decode cL_wants 8 = .ok (.aload_n 2, 1) := by decide +kernel
theorem dL_wants_9 : decode cL_wants 9 = .ok (.iconst 0, 1) := by decide +kernel
theorem dL_wants_10 : decode cL_wants 10 = .ok (.iaload, 1) := by decide +kernel
theorem dL_wants_11 : decode cL_wants 11 = .ok (.if_icmp .ge 50, 3) := by decide +kernel
theorem dL_wants_14 : decode cL_wants 14 = .ok (.iload_n 0, 1) := by decide +kernel
theorem dL_wants_15 : decode cL_wants 15 = .ok (.ifCond .lt 14, 3) := by decide +kernel
theorem dL_wants_18 : decode cL_wants 18 = .ok (.aload_n 3, 1) := by decide +kernel
theorem dL_wants_19 : decode cL_wants 19 = .ok (.bipush 6, 2) := by decide +kernel
theorem dL_wants_21 : decode cL_wants 21 = .ok (.iload 5, 2) := by decide +kernel
theorem dL_wants_23 : decode cL_wants 23 = .ok (.imul, 1) := by decide +kernel
theorem dL_wants_24 : decode cL_wants 24 = .ok (.iaload, 1) := by decide +kernel
theorem dL_wants_25 : decode cL_wants 25 = .ok (.iload_n 0, 1) := by decide +kernel
theorem dL_wants_26 : decode cL_wants 26 = .ok (.if_icmp .ne 29, 3) := by decide +kernel
theorem dL_wants_29 : decode cL_wants 29 = .ok (.iload_n 1, 1) := by decide +kernel
theorem dL_wants_30 : decode cL_wants 30 = .ok (.aload_n 3, 1) := by decide +kernel
theorem dL_wants_31 : decode cL_wants 31 = .ok (.bipush 6, 2) := by decide +kernel
theorem dL_wants_33 : decode cL_wants 33 = .ok (.iload 5, 2) := by decide +kernel
theorem dL_wants_35 : decode cL_wants 35 = .ok (.imul, 1) := by decide +kernel
theorem dL_wants_36 : decode cL_wants 36 = .ok (.iaload, 1) := by decide +kernel
theorem dL_wants_37 : decode cL_wants 37 = .ok (.ishr, 1) := by decide +kernel
theorem dL_wants_38 : decode cL_wants 38 = .ok (.iconst 1, 1) := by decide +kernel
theorem dL_wants_39 : decode cL_wants 39 = .ok (.iand, 1) := by decide +kernel
theorem dL_wants_40 : decode cL_wants 40 = .ok (.ifCond .ne 15, 3) := by decide +kernel
theorem dL_wants_43 : decode cL_wants 43 = .ok (.iload 4, 2) := by decide +kernel
theorem dL_wants_45 : decode cL_wants 45 = .ok (.iload 5, 2) := by decide +kernel
theorem dL_wants_47 : decode cL_wants 47 = .ok (.aload_n 2, 1) := by decide +kernel
theorem dL_wants_48 : decode cL_wants 48 = .ok (.aload_n 3, 1) := by decide +kernel
theorem dL_wants_49 : decode cL_wants 49 = .ok (.invokestatic 8, 3) := by decide +kernel
theorem dL_wants_52 : decode cL_wants 52 = .ok (.iadd, 1) := by decide +kernel
theorem dL_wants_53 : decode cL_wants 53 = .ok (.istore 4, 2) := by decide +kernel
theorem dL_wants_55 : decode cL_wants 55 = .ok (.iinc 5 1, 3) := by decide +kernel
theorem dL_wants_58 : decode cL_wants 58 = .ok (.goto (-52), 3) := by decide +kernel
theorem dL_wants_61 : decode cL_wants 61 = .ok (.iload 4, 2) := by decide +kernel
theorem dL_wants_63 : decode cL_wants 63 = .ok (.ireturn, 1) := by decide +kernel
theorem dL_hour_0 : decode cL_hour 0 = .ok (.aload 4, 2) := by decide +kernel
theorem dL_hour_2 : decode cL_hour 2 = .ok (.aload_n 0, 1) := by decide +kernel
theorem dL_hour_3 : decode cL_hour 3 = .ok (.iconst 2, 1) := by decide +kernel
theorem dL_hour_4 : decode cL_hour 4 = .ok (.iaload, 1) := by decide +kernel
theorem dL_hour_5 : decode cL_hour 5 = .ok (.aload_n 0, 1) := by decide +kernel
theorem dL_hour_6 : decode cL_hour 6 = .ok (.bipush 15, 2) := by decide +kernel
theorem dL_hour_8 : decode cL_hour 8 = .ok (.iaload, 1) := by decide +kernel
theorem dL_hour_9 : decode cL_hour 9 = .ok (.irem, 1) := by decide +kernel
theorem dL_hour_10 : decode cL_hour 10 = .ok (.iaload, 1) := by decide +kernel
theorem dL_hour_11 : decode cL_hour 11 = .ok (.istore 5, 2) := by decide +kernel
theorem dL_hour_13 : decode cL_hour 13 = .ok (.iload 5, 2) := by decide +kernel
theorem dL_hour_15 : decode cL_hour 15 = .ok (.iconst 0, 1) := by decide +kernel
theorem dL_hour_16 : decode cL_hour 16 = .ok (.aload_n 3, 1) := by decide +kernel
theorem dL_hour_17 : decode cL_hour 17 = .ok (.invokestatic 14, 3) := by decide +kernel
theorem dL_hour_20 : decode cL_hour 20 = .ok (.iadd, 1) := by decide +kernel
theorem dL_hour_21 : decode cL_hour 21 = .ok (.iconst 1, 1) := by decide +kernel
theorem dL_hour_22 : decode cL_hour 22 = .ok (.aload_n 3, 1) := by decide +kernel
theorem dL_hour_23 : decode cL_hour 23 = .ok (.invokestatic 14, 3) := by decide +kernel
theorem dL_hour_26 : decode cL_hour 26 = .ok (.iadd, 1) := by decide +kernel
theorem dL_hour_27 : decode cL_hour 27 = .ok (.istore 6, 2) := by decide +kernel
theorem dL_hour_29 : decode cL_hour 29 = .ok (.iconst 0, 1) := by decide +kernel
theorem dL_hour_30 : decode cL_hour 30 = .ok (.istore 7, 2) := by decide +kernel
theorem dL_hour_32 : decode cL_hour 32 = .ok (.iconst 0, 1) := by decide +kernel
theorem dL_hour_33 : decode cL_hour 33 = .ok (.istore 8, 2) := by decide +kernel
theorem dL_hour_35 : decode cL_hour 35 = .ok (.iload 8, 2) := by decide +kernel
theorem dL_hour_37 : decode cL_hour 37 = .ok (.iconst 2, 1) := by decide +kernel
theorem dL_hour_38 : decode cL_hour 38 = .ok (.if_icmp .ge 60, 3) := by decide +kernel
theorem dL_hour_41 : decode cL_hour 41 = .ok (.iconst (-1), 1) := by decide +kernel
theorem dL_hour_42 : decode cL_hour 42 = .ok (.iload 7, 2) := by decide +kernel
theorem dL_hour_44 : decode cL_hour 44 = .ok (.aload_n 0, 1) := by decide +kernel
theorem dL_hour_45 : decode cL_hour 45 = .ok (.aload_n 1, 1) := by decide +kernel
theorem dL_hour_46 : decode cL_hour 46 = .ok (.invokestatic 18, 3) := by decide +kernel
theorem dL_hour_49 : decode cL_hour 49 = .ok (.iload 6, 2) := by decide +kernel
theorem dL_hour_51 : decode cL_hour 51 = .ok (.if_icmp .le 47, 3) := by decide +kernel
theorem dL_hour_54 : decode cL_hour 54 = .ok (.aload_n 0, 1) := by decide +kernel
theorem dL_hour_55 : decode cL_hour 55 = .ok (.iconst 3, 1) := by decide +kernel
theorem dL_hour_56 : decode cL_hour 56 = .ok (.iaload, 1) := by decide +kernel
theorem dL_hour_57 : decode cL_hour 57 = .ok (.iload 7, 2) := by decide +kernel
theorem dL_hour_59 : decode cL_hour 59 = .ok (.aload_n 0, 1) := by decide +kernel
theorem dL_hour_60 : decode cL_hour 60 = .ok (.aload_n 1, 1) := by decide +kernel
theorem dL_hour_61 : decode cL_hour 61 = .ok (.invokestatic 18, 3) := by decide +kernel
theorem dL_hour_64 : decode cL_hour 64 = .ok (.ifCond .le 13, 3) := by decide +kernel
theorem dL_hour_67 : decode cL_hour 67 = .ok (.iload 7, 2) := by decide +kernel
theorem dL_hour_69 : decode cL_hour 69 = .ok (.iconst 1, 1) := by decide +kernel
theorem dL_hour_70 : decode cL_hour 70 = .ok (.aload_n 0, 1) := by decide +kernel
theorem dL_hour_71 : decode cL_hour 71 = .ok (.iconst 3, 1) := by decide +kernel
theorem dL_hour_72 : decode cL_hour 72 = .ok (.iaload, 1) := by decide +kernel
theorem dL_hour_73 : decode cL_hour 73 = .ok (.ishl, 1) := by decide +kernel
theorem dL_hour_74 : decode cL_hour 74 = .ok (.ior, 1) := by decide +kernel
theorem dL_hour_75 : decode cL_hour 75 = .ok (.istore 7, 2) := by decide +kernel
theorem dL_hour_77 : decode cL_hour 77 = .ok (.aload_n 0, 1) := by decide +kernel
theorem dL_hour_78 : decode cL_hour 78 = .ok (.iconst 3, 1) := by decide +kernel
theorem dL_hour_79 : decode cL_hour 79 = .ok (.aload_n 0, 1) := by decide +kernel
theorem dL_hour_80 : decode cL_hour 80 = .ok (.iconst 3, 1) := by decide +kernel
theorem dL_hour_81 : decode cL_hour 81 = .ok (.iaload, 1) := by decide +kernel
theorem dL_hour_82 : decode cL_hour 82 = .ok (.iconst 1, 1) := by decide +kernel
theorem dL_hour_83 : decode cL_hour 83 = .ok (.if_icmp .ne 7, 3) := by decide +kernel
theorem dL_hour_86 : decode cL_hour 86 = .ok (.iconst 2, 1) := by decide +kernel
theorem dL_hour_87 : decode cL_hour 87 = .ok (.goto 4, 3) := by decide +kernel
theorem dL_hour_90 : decode cL_hour 90 = .ok (.iconst 1, 1) := by decide +kernel
theorem dL_hour_91 : decode cL_hour 91 = .ok (.iastore, 1) := by decide +kernel
theorem dL_hour_92 : decode cL_hour 92 = .ok (.iinc 8 1, 3) := by decide +kernel
theorem dL_hour_95 : decode cL_hour 95 = .ok (.goto (-60), 3) := by decide +kernel
theorem dL_hour_98 : decode cL_hour 98 = .ok (.iconst 1, 1) := by decide +kernel
theorem dL_hour_99 : decode cL_hour 99 = .ok (.istore 8, 2) := by decide +kernel
theorem dL_hour_101 : decode cL_hour 101 = .ok (.iload 8, 2) := by decide +kernel
theorem dL_hour_103 : decode cL_hour 103 = .ok (.iconst 3, 1) := by decide +kernel
theorem dL_hour_104 : decode cL_hour 104 = .ok (.if_icmp .ge 26, 3) := by decide +kernel
theorem dL_hour_107 : decode cL_hour 107 = .ok (.aload_n 0, 1) := by decide +kernel
theorem dL_hour_108 : decode cL_hour 108 = .ok (.bipush 16, 2) := by decide +kernel
theorem dL_hour_110 : decode cL_hour 110 = .ok (.iload 8, 2) := by decide +kernel
theorem dL_hour_112 : decode cL_hour 112 = .ok (.iadd, 1) := by decide +kernel
theorem dL_hour_113 : decode cL_hour 113 = .ok (.dup2, 1) := by decide +kernel
theorem dL_hour_114 : decode cL_hour 114 = .ok (.iaload, 1) := by decide +kernel
theorem dL_hour_115 : decode cL_hour 115 = .ok (.iload 7, 2) := by decide +kernel
theorem dL_hour_117 : decode cL_hour 117 = .ok (.iload 8, 2) := by decide +kernel
theorem dL_hour_119 : decode cL_hour 119 = .ok (.ishr, 1) := by decide +kernel
theorem dL_hour_120 : decode cL_hour 120 = .ok (.iconst 1, 1) := by decide +kernel
theorem dL_hour_121 : decode cL_hour 121 = .ok (.iand, 1) := by decide +kernel
theorem dL_hour_122 : decode cL_hour 122 = .ok (.iadd, 1) := by decide +kernel
theorem dL_hour_123 : decode cL_hour 123 = .ok (.iastore, 1) := by decide +kernel
theorem dL_hour_124 : decode cL_hour 124 = .ok (.iinc 8 1, 3) := by decide +kernel
theorem dL_hour_127 : decode cL_hour 127 = .ok (.goto (-26), 3) := by decide +kernel
theorem dL_hour_130 : decode cL_hour 130 = .ok (.aload_n 0, 1) := by decide +kernel
theorem dL_hour_131 : decode cL_hour 131 = .ok (.bipush 19, 2) := by decide +kernel
theorem dL_hour_133 : decode cL_hour 133 = .ok (.iload 7, 2) := by decide +kernel
theorem dL_hour_135 : decode cL_hour 135 = .ok (.iastore, 1) := by decide +kernel
theorem dL_hour_136 : decode cL_hour 136 = .ok (.iload 6, 2) := by decide +kernel
theorem dL_hour_138 : decode cL_hour 138 = .ok (.istore 8, 2) := by decide +kernel
theorem dL_hour_140 : decode cL_hour 140 = .ok (.iconst 0, 1) := by decide +kernel
theorem dL_hour_141 : decode cL_hour 141 = .ok (.istore 9, 2) := by decide +kernel
theorem dL_hour_143 : decode cL_hour 143 = .ok (.iload 9, 2) := by decide +kernel
theorem dL_hour_145 : decode cL_hour 145 = .ok (.iconst 3, 1) := by decide +kernel
theorem dL_hour_146 : decode cL_hour 146 = .ok (.if_icmp .ge 187, 3) := by decide +kernel
theorem dL_hour_149 : decode cL_hour 149 = .ok (.iconst 0, 1) := by decide +kernel
theorem dL_hour_150 : decode cL_hour 150 = .ok (.istore 10, 2) := by decide +kernel
theorem dL_hour_152 : decode cL_hour 152 = .ok (.iload 10, 2) := by decide +kernel
theorem dL_hour_154 : decode cL_hour 154 = .ok (.aload_n 0, 1) := by decide +kernel
theorem dL_hour_155 : decode cL_hour 155 = .ok (.iconst 0, 1) := by decide +kernel
theorem dL_hour_156 : decode cL_hour 156 = .ok (.iaload, 1) := by decide +kernel
theorem dL_hour_157 : decode cL_hour 157 = .ok (.if_icmp .ge 170, 3) := by decide +kernel
theorem dL_hour_160 : decode cL_hour 160 = .ok (.aload_n 1, 1) := by decide +kernel
theorem dL_hour_161 : decode cL_hour 161 = .ok (.bipush 6, 2) := by decide +kernel
theorem dL_hour_163 : decode cL_hour 163 = .ok (.iload 10, 2) := by decide +kernel
theorem dL_hour_165 : decode cL_hour 165 = .ok (.imul, 1) := by decide +kernel
theorem dL_hour_166 : decode cL_hour 166 = .ok (.iaload, 1) := by decide +kernel
theorem dL_hour_167 : decode cL_hour 167 = .ok (.iload 9, 2) := by decide +kernel
theorem dL_hour_169 : decode cL_hour 169 = .ok (.if_icmp .ne 152, 3) := by decide +kernel
theorem dL_hour_172 : decode cL_hour 172 = .ok (.iload 7, 2) := by decide +kernel
theorem dL_hour_174 : decode cL_hour 174 = .ok (.iload 9, 2) := by decide +kernel
theorem dL_hour_176 : decode cL_hour 176 = .ok (.ishr, 1) := by decide +kernel
theorem dL_hour_177 : decode cL_hour 177 = .ok (.iconst 1, 1) := by decide +kernel
theorem dL_hour_178 : decode cL_hour 178 = .ok (.iand, 1) := by decide +kernel
theorem dL_hour_179 : decode cL_hour 179 = .ok (.iconst 1, 1) := by decide +kernel
theorem dL_hour_180 : decode cL_hour 180 = .ok (.if_icmp .ne 7, 3) := by decide +kernel
theorem dL_hour_183 : decode cL_hour 183 = .ok (.iconst 0, 1) := by decide +kernel
theorem dL_hour_184 : decode cL_hour 184 = .ok (.goto 10, 3) := by decide +kernel
theorem dL_hour_187 : decode cL_hour 187 = .ok (.iload 10, 2) := by decide +kernel
theorem dL_hour_189 : decode cL_hour 189 = .ok (.aload_n 0, 1) := by decide +kernel
theorem dL_hour_190 : decode cL_hour 190 = .ok (.aload_n 1, 1) := by decide +kernel
theorem dL_hour_191 : decode cL_hour 191 = .ok (.invokestatic 8, 3) := by decide +kernel
theorem dL_hour_194 : decode cL_hour 194 = .ok (.istore 11, 2) := by decide +kernel
theorem dL_hour_196 : decode cL_hour 196 = .ok (.iload 8, 2) := by decide +kernel
theorem dL_hour_198 : decode cL_hour 198 = .ok (.iload 11, 2) := by decide +kernel
theorem dL_hour_200 : decode cL_hour 200 = .ok (.if_icmp .lt 8, 3) := by decide +kernel
theorem dL_hour_203 : decode cL_hour 203 = .ok (.iload 11, 2) := by decide +kernel
theorem dL_hour_205 : decode cL_hour 205 = .ok (.goto 24, 3) := by decide +kernel
theorem dL_hour_208 : decode cL_hour 208 = .ok (.bipush 100, 2) := by decide +kernel
theorem dL_hour_210 : decode cL_hour 210 = .ok (.iload 8, 2) := by decide +kernel
theorem dL_hour_212 : decode cL_hour 212 = .ok (.imul, 1) := by decide +kernel
theorem dL_hour_213 : decode cL_hour 213 = .ok (.iload 11, 2) := by decide +kernel
theorem dL_hour_215 : decode cL_hour 215 = .ok (.aload_n 0, 1) := by decide +kernel
theorem dL_hour_216 : decode cL_hour 216 = .ok (.bipush 7, 2) := by decide +kernel
theorem dL_hour_218 : decode cL_hour 218 = .ok (.iaload, 1) := by decide +kernel
theorem dL_hour_219 : decode cL_hour 219 = .ok (.imul, 1) := by decide +kernel
theorem dL_hour_220 : decode cL_hour 220 = .ok (.if_icmp .ge 7, 3) := by decide +kernel
theorem dL_hour_223 : decode cL_hour 223 = .ok (.iconst 0, 1) := by decide +kernel
theorem dL_hour_224 : decode cL_hour 224 = .ok (.goto 5, 3) := by decide +kernel
theorem dL_hour_227 : decode cL_hour 227 = .ok (.iload 8, 2) := by decide +kernel
theorem dL_hour_229 : decode cL_hour 229 = .ok (.istore 12, 2) := by decide +kernel
theorem dL_hour_231 : decode cL_hour 231 = .ok (.iload 8, 2) := by decide +kernel
theorem dL_hour_233 : decode cL_hour 233 = .ok (.iload 12, 2) := by decide +kernel
theorem dL_hour_235 : decode cL_hour 235 = .ok (.isub, 1) := by decide +kernel
theorem dL_hour_236 : decode cL_hour 236 = .ok (.istore 8, 2) := by decide +kernel
theorem dL_hour_238 : decode cL_hour 238 = .ok (.aload_n 2, 1) := by decide +kernel
theorem dL_hour_239 : decode cL_hour 239 = .ok (.iload 10, 2) := by decide +kernel
theorem dL_hour_241 : decode cL_hour 241 = .ok (.iload 12, 2) := by decide +kernel
theorem dL_hour_243 : decode cL_hour 243 = .ok (.iastore, 1) := by decide +kernel
theorem dL_hour_244 : decode cL_hour 244 = .ok (.aload_n 1, 1) := by decide +kernel
theorem dL_hour_245 : decode cL_hour 245 = .ok (.bipush 6, 2) := by decide +kernel
theorem dL_hour_247 : decode cL_hour 247 = .ok (.iload 10, 2) := by decide +kernel
theorem dL_hour_249 : decode cL_hour 249 = .ok (.imul, 1) := by decide +kernel
theorem dL_hour_250 : decode cL_hour 250 = .ok (.iconst 1, 1) := by decide +kernel
theorem dL_hour_251 : decode cL_hour 251 = .ok (.iadd, 1) := by decide +kernel
theorem dL_hour_252 : decode cL_hour 252 = .ok (.iaload, 1) := by decide +kernel
theorem dL_hour_253 : decode cL_hour 253 = .ok (.istore 13, 2) := by decide +kernel
theorem dL_hour_255 : decode cL_hour 255 = .ok (.aload_n 2, 1) := by decide +kernel
theorem dL_hour_256 : decode cL_hour 256 = .ok (.bipush 8, 2) := by decide +kernel
theorem dL_hour_258 : decode cL_hour 258 = .ok (.iload 10, 2) := by decide +kernel
theorem dL_hour_260 : decode cL_hour 260 = .ok (.iadd, 1) := by decide +kernel
theorem dL_hour_261 : decode cL_hour 261 = .ok (.iload 12, 2) := by decide +kernel
theorem dL_hour_263 : decode cL_hour 263 = .ok (.iload 13, 2) := by decide +kernel
theorem dL_hour_265 : decode cL_hour 265 = .ok (.if_icmp .ne 7, 3) := by decide +kernel
theorem dL_hour_268 : decode cL_hour 268 = .ok (.iconst 0, 1) := by decide +kernel
theorem dL_hour_269 : decode cL_hour 269 = .ok (.goto 51, 3) := by decide +kernel
theorem dL_hour_272 : decode cL_hour 272 = .ok (.aload_n 1, 1) := by decide +kernel
theorem dL_hour_273 : decode cL_hour 273 = .ok (.bipush 6, 2) := by decide +kernel
theorem dL_hour_275 : decode cL_hour 275 = .ok (.iload 10, 2) := by decide +kernel
theorem dL_hour_277 : decode cL_hour 277 = .ok (.imul, 1) := by decide +kernel
theorem dL_hour_278 : decode cL_hour 278 = .ok (.iconst 3, 1) := by decide +kernel
theorem dL_hour_279 : decode cL_hour 279 = .ok (.iadd, 1) := by decide +kernel
theorem dL_hour_280 : decode cL_hour 280 = .ok (.iaload, 1) := by decide +kernel
theorem dL_hour_281 : decode cL_hour 281 = .ok (.ifCond .ne 7, 3) := by decide +kernel
theorem dL_hour_284 : decode cL_hour 284 = .ok (.iconst 1, 1) := by decide +kernel
theorem dL_hour_285 : decode cL_hour 285 = .ok (.goto 35, 3) := by decide +kernel
theorem dL_hour_288 : decode cL_hour 288 = .ok (.iload 10, 2) := by decide +kernel
theorem dL_hour_290 : decode cL_hour 290 = .ok (.aload_n 0, 1) := by decide +kernel
theorem dL_hour_291 : decode cL_hour 291 = .ok (.aload_n 1, 1) := by decide +kernel
theorem dL_hour_292 : decode cL_hour 292 = .ok (.invokestatic 8, 3) := by decide +kernel
theorem dL_hour_295 : decode cL_hour 295 = .ok (.iload 13, 2) := by decide +kernel
theorem dL_hour_297 : decode cL_hour 297 = .ok (.if_icmp .ge 7, 3) := by decide +kernel
theorem dL_hour_300 : decode cL_hour 300 = .ok (.iconst 2, 1) := by decide +kernel
theorem dL_hour_301 : decode cL_hour 301 = .ok (.goto 19, 3) := by decide +kernel
theorem dL_hour_304 : decode cL_hour 304 = .ok (.iload 7, 2) := by decide +kernel
theorem dL_hour_306 : decode cL_hour 306 = .ok (.iload 9, 2) := by decide +kernel
theorem dL_hour_308 : decode cL_hour 308 = .ok (.ishr, 1) := by decide +kernel
theorem dL_hour_309 : decode cL_hour 309 = .ok (.iconst 1, 1) := by decide +kernel
theorem dL_hour_310 : decode cL_hour 310 = .ok (.iand, 1) := by decide +kernel
theorem dL_hour_311 : decode cL_hour 311 = .ok (.iconst 1, 1) := by decide +kernel
theorem dL_hour_312 : decode cL_hour 312 = .ok (.if_icmp .ne 7, 3) := by decide +kernel
theorem dL_hour_315 : decode cL_hour 315 = .ok (.iconst 3, 1) := by decide +kernel
theorem dL_hour_316 : decode cL_hour 316 = .ok (.goto 4, 3) := by decide +kernel
theorem dL_hour_319 : decode cL_hour 319 = .ok (.iconst 4, 1) := by decide +kernel
theorem dL_hour_320 : decode cL_hour 320 = .ok (.iastore, 1) := by decide +kernel
theorem dL_hour_321 : decode cL_hour 321 = .ok (.iinc 10 1, 3) := by decide +kernel
theorem dL_hour_324 : decode cL_hour 324 = .ok (.goto (-172), 3) := by decide +kernel
theorem dL_hour_327 : decode cL_hour 327 = .ok (.iinc 9 1, 3) := by decide +kernel
theorem dL_hour_330 : decode cL_hour 330 = .ok (.goto (-187), 3) := by decide +kernel
theorem dL_hour_333 : decode cL_hour 333 = .ok (.iload 6, 2) := by decide +kernel
theorem dL_hour_335 : decode cL_hour 335 = .ok (.iload 8, 2) := by decide +kernel
theorem dL_hour_337 : decode cL_hour 337 = .ok (.isub, 1) := by decide +kernel
theorem dL_hour_338 : decode cL_hour 338 = .ok (.istore 9, 2) := by decide +kernel
theorem dL_hour_340 : decode cL_hour 340 = .ok (.iconst 0, 1) := by decide +kernel
theorem dL_hour_341 : decode cL_hour 341 = .ok (.istore 10, 2) := by decide +kernel
theorem dL_hour_343 : decode cL_hour 343 = .ok (.iload 10, 2) := by decide +kernel
theorem dL_hour_345 : decode cL_hour 345 = .ok (.aload_n 0, 1) := by decide +kernel
theorem dL_hour_346 : decode cL_hour 346 = .ok (.iconst 0, 1) := by decide +kernel
theorem dL_hour_347 : decode cL_hour 347 = .ok (.iaload, 1) := by decide +kernel
theorem dL_hour_348 : decode cL_hour 348 = .ok (.if_icmp .ge 41, 3) := by decide +kernel
theorem dL_hour_351 : decode cL_hour 351 = .ok (.aload_n 1, 1) := by decide +kernel
theorem dL_hour_352 : decode cL_hour 352 = .ok (.bipush 6, 2) := by decide +kernel
theorem dL_hour_354 : decode cL_hour 354 = .ok (.iload 10, 2) := by decide +kernel
theorem dL_hour_356 : decode cL_hour 356 = .ok (.imul, 1) := by decide +kernel
theorem dL_hour_357 : decode cL_hour 357 = .ok (.iconst 4, 1) := by decide +kernel
theorem dL_hour_358 : decode cL_hour 358 = .ok (.iadd, 1) := by decide +kernel
theorem dL_hour_359 : decode cL_hour 359 = .ok (.dup2, 1) := by decide +kernel
theorem dL_hour_360 : decode cL_hour 360 = .ok (.iaload, 1) := by decide +kernel
theorem dL_hour_361 : decode cL_hour 361 = .ok (.aload_n 2, 1) := by decide +kernel
theorem dL_hour_362 : decode cL_hour 362 = .ok (.iload 10, 2) := by decide +kernel
theorem dL_hour_364 : decode cL_hour 364 = .ok (.iaload, 1) := by decide +kernel
theorem dL_hour_365 : decode cL_hour 365 = .ok (.isub, 1) := by decide +kernel
theorem dL_hour_366 : decode cL_hour 366 = .ok (.iastore, 1) := by decide +kernel
theorem dL_hour_367 : decode cL_hour 367 = .ok (.aload_n 1, 1) := by decide +kernel
theorem dL_hour_368 : decode cL_hour 368 = .ok (.bipush 6, 2) := by decide +kernel
theorem dL_hour_370 : decode cL_hour 370 = .ok (.iload 10, 2) := by decide +kernel
theorem dL_hour_372 : decode cL_hour 372 = .ok (.imul, 1) := by decide +kernel
theorem dL_hour_373 : decode cL_hour 373 = .ok (.iconst 5, 1) := by decide +kernel
theorem dL_hour_374 : decode cL_hour 374 = .ok (.iadd, 1) := by decide +kernel
theorem dL_hour_375 : decode cL_hour 375 = .ok (.dup2, 1) := by decide +kernel
theorem dL_hour_376 : decode cL_hour 376 = .ok (.iaload, 1) := by decide +kernel
theorem dL_hour_377 : decode cL_hour 377 = .ok (.aload_n 2, 1) := by decide +kernel
theorem dL_hour_378 : decode cL_hour 378 = .ok (.iload 10, 2) := by decide +kernel
theorem dL_hour_380 : decode cL_hour 380 = .ok (.iaload, 1) := by decide +kernel
theorem dL_hour_381 : decode cL_hour 381 = .ok (.iadd, 1) := by decide +kernel
theorem dL_hour_382 : decode cL_hour 382 = .ok (.iastore, 1) := by decide +kernel
theorem dL_hour_383 : decode cL_hour 383 = .ok (.iinc 10 1, 3) := by decide +kernel
theorem dL_hour_386 : decode cL_hour 386 = .ok (.goto (-43), 3) := by decide +kernel
theorem dL_hour_389 : decode cL_hour 389 = .ok (.iload 5, 2) := by decide +kernel
theorem dL_hour_391 : decode cL_hour 391 = .ok (.iload 9, 2) := by decide +kernel
theorem dL_hour_393 : decode cL_hour 393 = .ok (.isub, 1) := by decide +kernel
theorem dL_hour_394 : decode cL_hour 394 = .ok (.istore 10, 2) := by decide +kernel
theorem dL_hour_396 : decode cL_hour 396 = .ok (.iconst 0, 1) := by decide +kernel
theorem dL_hour_397 : decode cL_hour 397 = .ok (.istore 11, 2) := by decide +kernel
theorem dL_hour_399 : decode cL_hour 399 = .ok (.iload 11, 2) := by decide +kernel
theorem dL_hour_401 : decode cL_hour 401 = .ok (.iconst 2, 1) := by decide +kernel
theorem dL_hour_402 : decode cL_hour 402 = .ok (.if_icmp .ge 174, 3) := by decide +kernel
theorem dL_hour_405 : decode cL_hour 405 = .ok (.iconst 4, 1) := by decide +kernel
theorem dL_hour_406 : decode cL_hour 406 = .ok (.iload 11, 2) := by decide +kernel
theorem dL_hour_408 : decode cL_hour 408 = .ok (.imul, 1) := by decide +kernel
theorem dL_hour_409 : decode cL_hour 409 = .ok (.istore 12, 2) := by decide +kernel
theorem dL_hour_411 : decode cL_hour 411 = .ok (.iload 9, 2) := by decide +kernel
theorem dL_hour_413 : decode cL_hour 413 = .ok (.iload 5, 2) := by decide +kernel
theorem dL_hour_415 : decode cL_hour 415 = .ok (.if_icmp .le 50, 3) := by decide +kernel
theorem dL_hour_418 : decode cL_hour 418 = .ok (.iload 11, 2) := by decide +kernel
theorem dL_hour_420 : decode cL_hour 420 = .ok (.aload_n 3, 1) := by decide +kernel
theorem dL_hour_421 : decode cL_hour 421 = .ok (.invokestatic 14, 3) := by decide +kernel
theorem dL_hour_424 : decode cL_hour 424 = .ok (.iload 10, 2) := by decide +kernel
theorem dL_hour_426 : decode cL_hour 426 = .ok (.ineg, 1) := by decide +kernel
theorem dL_hour_427 : decode cL_hour 427 = .ok (.if_icmp .ge 12, 3) := by decide +kernel
theorem dL_hour_430 : decode cL_hour 430 = .ok (.iload 11, 2) := by decide +kernel
theorem dL_hour_432 : decode cL_hour 432 = .ok (.aload_n 3, 1) := by decide +kernel
theorem dL_hour_433 : decode cL_hour 433 = .ok (.invokestatic 14, 3) := by decide +kernel
theorem dL_hour_436 : decode cL_hour 436 = .ok (.goto 6, 3) := by decide +kernel
theorem dL_hour_439 : decode cL_hour 439 = .ok (.iload 10, 2) := by decide +kernel
theorem dL_hour_441 : decode cL_hour 441 = .ok (.ineg, 1) := by decide +kernel
theorem dL_hour_442 : decode cL_hour 442 = .ok (.istore 13, 2) := by decide +kernel
theorem dL_hour_444 : decode cL_hour 444 = .ok (.aload_n 3, 1) := by decide +kernel
theorem dL_hour_445 : decode cL_hour 445 = .ok (.iload 12, 2) := by decide +kernel
theorem dL_hour_447 : decode cL_hour 447 = .ok (.iconst 3, 1) := by decide +kernel
theorem dL_hour_448 : decode cL_hour 448 = .ok (.iadd, 1) := by decide +kernel
theorem dL_hour_449 : decode cL_hour 449 = .ok (.dup2, 1) := by decide +kernel
theorem dL_hour_450 : decode cL_hour 450 = .ok (.iaload, 1) := by decide +kernel
theorem dL_hour_451 : decode cL_hour 451 = .ok (.iload 13, 2) := by decide +kernel
theorem dL_hour_453 : decode cL_hour 453 = .ok (.isub, 1) := by decide +kernel
theorem dL_hour_454 : decode cL_hour 454 = .ok (.iastore, 1) := by decide +kernel
theorem dL_hour_455 : decode cL_hour 455 = .ok (.iload 10, 2) := by decide +kernel
theorem dL_hour_457 : decode cL_hour 457 = .ok (.iload 13, 2) := by decide +kernel
theorem dL_hour_459 : decode cL_hour 459 = .ok (.iadd, 1) := by decide +kernel
theorem dL_hour_460 : decode cL_hour 460 = .ok (.istore 10, 2) := by decide +kernel
theorem dL_hour_462 : decode cL_hour 462 = .ok (.goto 108, 3) := by decide +kernel
theorem dL_hour_465 : decode cL_hour 465 = .ok (.iconst 0, 1) := by decide +kernel
theorem dL_hour_466 : decode cL_hour 466 = .ok (.istore 13, 2) := by decide +kernel
theorem dL_hour_468 : decode cL_hour 468 = .ok (.iload 13, 2) := by decide +kernel
theorem dL_hour_470 : decode cL_hour 470 = .ok (.iload 10, 2) := by decide +kernel
theorem dL_hour_472 : decode cL_hour 472 = .ok (.if_icmp .ge 48, 3) := by decide +kernel
theorem dL_hour_475 : decode cL_hour 475 = .ok (.iload 13, 2) := by decide +kernel
theorem dL_hour_477 : decode cL_hour 477 = .ok (.aload_n 3, 1) := by decide +kernel
theorem dL_hour_478 : decode cL_hour 478 = .ok (.iload 12, 2) := by decide +kernel
theorem dL_hour_480 : decode cL_hour 480 = .ok (.iconst 1, 1) := by decide +kernel
theorem dL_hour_481 : decode cL_hour 481 = .ok (.iadd, 1) := by decide +kernel
theorem dL_hour_482 : decode cL_hour 482 = .ok (.iaload, 1) := by decide +kernel
theorem dL_hour_483 : decode cL_hour 483 = .ok (.if_icmp .ge 37, 3) := by decide +kernel
theorem dL_hour_486 : decode cL_hour 486 = .ok (.aload_n 3, 1) := by decide +kernel
theorem dL_hour_487 : decode cL_hour 487 = .ok (.iload 12, 2) := by decide +kernel
theorem dL_hour_489 : decode cL_hour 489 = .ok (.iconst 3, 1) := by decide +kernel
theorem dL_hour_490 : decode cL_hour 490 = .ok (.iadd, 1) := by decide +kernel
theorem dL_hour_491 : decode cL_hour 491 = .ok (.iaload, 1) := by decide +kernel
theorem dL_hour_492 : decode cL_hour 492 = .ok (.iload 13, 2) := by decide +kernel
theorem dL_hour_494 : decode cL_hour 494 = .ok (.iconst 1, 1) := by decide +kernel
theorem dL_hour_495 : decode cL_hour 495 = .ok (.iadd, 1) := by decide +kernel
theorem dL_hour_496 : decode cL_hour 496 = .ok (.aload_n 3, 1) := by decide +kernel
theorem dL_hour_497 : decode cL_hour 497 = .ok (.iload 12, 2) := by decide +kernel
theorem dL_hour_499 : decode cL_hour 499 = .ok (.iconst 2, 1) := by decide +kernel
theorem dL_hour_500 : decode cL_hour 500 = .ok (.iadd, 1) := by decide +kernel
theorem dL_hour_501 : decode cL_hour 501 = .ok (.iaload, 1) := by decide +kernel
theorem dL_hour_502 : decode cL_hour 502 = .ok (.imul, 1) := by decide +kernel
theorem dL_hour_503 : decode cL_hour 503 = .ok (.bipush 100, 2) := by decide +kernel
theorem dL_hour_505 : decode cL_hour 505 = .ok (.idiv, 1) := by decide +kernel
theorem dL_hour_506 : decode cL_hour 506 = .ok (.iadd, 1) := by decide +kernel
theorem dL_hour_507 : decode cL_hour 507 = .ok (.aload_n 3, 1) := by decide +kernel
theorem dL_hour_508 : decode cL_hour 508 = .ok (.iload 12, 2) := by decide +kernel
theorem dL_hour_510 : decode cL_hour 510 = .ok (.iaload, 1) := by decide +kernel
theorem dL_hour_511 : decode cL_hour 511 = .ok (.if_icmp .gt 9, 3) := by decide +kernel
theorem dL_hour_514 : decode cL_hour 514 = .ok (.iinc 13 1, 3) := by decide +kernel
theorem dL_hour_517 : decode cL_hour 517 = .ok (.goto (-49), 3) := by decide +kernel
theorem dL_hour_520 : decode cL_hour 520 = .ok (.iload 10, 2) := by decide +kernel
theorem dL_hour_522 : decode cL_hour 522 = .ok (.iload 13, 2) := by decide +kernel
theorem dL_hour_524 : decode cL_hour 524 = .ok (.isub, 1) := by decide +kernel
theorem dL_hour_525 : decode cL_hour 525 = .ok (.istore 10, 2) := by decide +kernel
theorem dL_hour_527 : decode cL_hour 527 = .ok (.aload_n 3, 1) := by decide +kernel
theorem dL_hour_528 : decode cL_hour 528 = .ok (.iload 12, 2) := by decide +kernel
theorem dL_hour_530 : decode cL_hour 530 = .ok (.iconst 3, 1) := by decide +kernel
theorem dL_hour_531 : decode cL_hour 531 = .ok (.iadd, 1) := by decide +kernel
theorem dL_hour_532 : decode cL_hour 532 = .ok (.dup2, 1) := by decide +kernel
theorem dL_hour_533 : decode cL_hour 533 = .ok (.iaload, 1) := by decide +kernel
theorem dL_hour_534 : decode cL_hour 534 = .ok (.iload 13, 2) := by decide +kernel
theorem dL_hour_536 : decode cL_hour 536 = .ok (.aload_n 3, 1) := by decide +kernel
theorem dL_hour_537 : decode cL_hour 537 = .ok (.iload 12, 2) := by decide +kernel
theorem dL_hour_539 : decode cL_hour 539 = .ok (.iconst 2, 1) := by decide +kernel
theorem dL_hour_540 : decode cL_hour 540 = .ok (.iadd, 1) := by decide +kernel
theorem dL_hour_541 : decode cL_hour 541 = .ok (.iaload, 1) := by decide +kernel
theorem dL_hour_542 : decode cL_hour 542 = .ok (.imul, 1) := by decide +kernel
theorem dL_hour_543 : decode cL_hour 543 = .ok (.bipush 100, 2) := by decide +kernel
theorem dL_hour_545 : decode cL_hour 545 = .ok (.idiv, 1) := by decide +kernel
theorem dL_hour_546 : decode cL_hour 546 = .ok (.iadd, 1) := by decide +kernel
theorem dL_hour_547 : decode cL_hour 547 = .ok (.iastore, 1) := by decide +kernel
theorem dL_hour_548 : decode cL_hour 548 = .ok (.aload_n 0, 1) := by decide +kernel
theorem dL_hour_549 : decode cL_hour 549 = .ok (.bipush 10, 2) := by decide +kernel
theorem dL_hour_551 : decode cL_hour 551 = .ok (.dup2, 1) := by decide +kernel
theorem dL_hour_552 : decode cL_hour 552 = .ok (.iaload, 1) := by decide +kernel
theorem dL_hour_553 : decode cL_hour 553 = .ok (.iload 13, 2) := by decide +kernel
theorem dL_hour_555 : decode cL_hour 555 = .ok (.iload 13, 2) := by decide +kernel
theorem dL_hour_557 : decode cL_hour 557 = .ok (.aload_n 3, 1) := by decide +kernel
theorem dL_hour_558 : decode cL_hour 558 = .ok (.iload 12, 2) := by decide +kernel
theorem dL_hour_560 : decode cL_hour 560 = .ok (.iconst 2, 1) := by decide +kernel
theorem dL_hour_561 : decode cL_hour 561 = .ok (.iadd, 1) := by decide +kernel
theorem dL_hour_562 : decode cL_hour 562 = .ok (.iaload, 1) := by decide +kernel
theorem dL_hour_563 : decode cL_hour 563 = .ok (.imul, 1) := by decide +kernel
theorem dL_hour_564 : decode cL_hour 564 = .ok (.bipush 100, 2) := by decide +kernel
theorem dL_hour_566 : decode cL_hour 566 = .ok (.idiv, 1) := by decide +kernel
theorem dL_hour_567 : decode cL_hour 567 = .ok (.isub, 1) := by decide +kernel
theorem dL_hour_568 : decode cL_hour 568 = .ok (.iadd, 1) := by decide +kernel
theorem dL_hour_569 : decode cL_hour 569 = .ok (.iastore, 1) := by decide +kernel
theorem dL_hour_570 : decode cL_hour 570 = .ok (.iinc 11 1, 3) := by decide +kernel
theorem dL_hour_573 : decode cL_hour 573 = .ok (.goto (-174), 3) := by decide +kernel
theorem dL_hour_576 : decode cL_hour 576 = .ok (.aload_n 0, 1) := by decide +kernel
theorem dL_hour_577 : decode cL_hour 577 = .ok (.bipush 8, 2) := by decide +kernel
theorem dL_hour_579 : decode cL_hour 579 = .ok (.dup2, 1) := by decide +kernel
theorem dL_hour_580 : decode cL_hour 580 = .ok (.iaload, 1) := by decide +kernel
theorem dL_hour_581 : decode cL_hour 581 = .ok (.iload 5, 2) := by decide +kernel
theorem dL_hour_583 : decode cL_hour 583 = .ok (.iadd, 1) := by decide +kernel
theorem dL_hour_584 : decode cL_hour 584 = .ok (.iastore, 1) := by decide +kernel
theorem dL_hour_585 : decode cL_hour 585 = .ok (.aload_n 0, 1) := by decide +kernel
theorem dL_hour_586 : decode cL_hour 586 = .ok (.bipush 9, 2) := by decide +kernel
theorem dL_hour_588 : decode cL_hour 588 = .ok (.dup2, 1) := by decide +kernel
theorem dL_hour_589 : decode cL_hour 589 = .ok (.iaload, 1) := by decide +kernel
theorem dL_hour_590 : decode cL_hour 590 = .ok (.iload 9, 2) := by decide +kernel
theorem dL_hour_592 : decode cL_hour 592 = .ok (.iadd, 1) := by decide +kernel
theorem dL_hour_593 : decode cL_hour 593 = .ok (.iastore, 1) := by decide +kernel
theorem dL_hour_594 : decode cL_hour 594 = .ok (.aload_n 0, 1) := by decide +kernel
theorem dL_hour_595 : decode cL_hour 595 = .ok (.bipush 11, 2) := by decide +kernel
theorem dL_hour_597 : decode cL_hour 597 = .ok (.dup2, 1) := by decide +kernel
theorem dL_hour_598 : decode cL_hour 598 = .ok (.iaload, 1) := by decide +kernel
theorem dL_hour_599 : decode cL_hour 599 = .ok (.iload 10, 2) := by decide +kernel
theorem dL_hour_601 : decode cL_hour 601 = .ok (.iadd, 1) := by decide +kernel
theorem dL_hour_602 : decode cL_hour 602 = .ok (.iastore, 1) := by decide +kernel
theorem dL_hour_603 : decode cL_hour 603 = .ok (.aload_n 0, 1) := by decide +kernel
theorem dL_hour_604 : decode cL_hour 604 = .ok (.iconst 2, 1) := by decide +kernel
theorem dL_hour_605 : decode cL_hour 605 = .ok (.dup2, 1) := by decide +kernel
theorem dL_hour_606 : decode cL_hour 606 = .ok (.iaload, 1) := by decide +kernel
theorem dL_hour_607 : decode cL_hour 607 = .ok (.iconst 1, 1) := by decide +kernel
theorem dL_hour_608 : decode cL_hour 608 = .ok (.iadd, 1) := by decide +kernel
theorem dL_hour_609 : decode cL_hour 609 = .ok (.iastore, 1) := by decide +kernel
theorem dL_hour_610 : decode cL_hour 610 = .ok (.return_, 1) := by decide +kernel
theorem dL_owes_0 : decode cL_owes 0 = .ok (.iconst 0, 1) := by decide +kernel
theorem dL_owes_1 : decode cL_owes 1 = .ok (.istore 4, 2) := by decide +kernel
theorem dL_owes_3 : decode cL_owes 3 = .ok (.iconst 0, 1) := by decide +kernel
theorem dL_owes_4 : decode cL_owes 4 = .ok (.istore 5, 2) := by decide +kernel
theorem dL_owes_6 : decode cL_owes 6 = .ok (.iload 5, 2) := by decide +kernel
theorem dL_owes_8 : decode cL_owes 8 = .ok (.aload_n 2, 1) := by decide +kernel
theorem dL_owes_9 : decode cL_owes 9 = .ok (.iconst 1, 1) := by decide +kernel
theorem dL_owes_10 : decode cL_owes 10 = .ok (.iaload, 1) := by decide +kernel
theorem dL_owes_11 : decode cL_owes 11 = .ok (.if_icmp .ge 34, 3) := by decide +kernel
theorem dL_owes_14 : decode cL_owes 14 = .ok (.aload_n 3, 1) := by decide +kernel
theorem dL_owes_15 : decode cL_owes 15 = .ok (.iconst 3, 1) := by decide +kernel
theorem dL_owes_16 : decode cL_owes 16 = .ok (.iload 5, 2) := by decide +kernel
theorem dL_owes_18 : decode cL_owes 18 = .ok (.imul, 1) := by decide +kernel
theorem dL_owes_19 : decode cL_owes 19 = .ok (.iload_n 1, 1) := by decide +kernel
theorem dL_owes_20 : decode cL_owes 20 = .ok (.iadd, 1) := by decide +kernel
theorem dL_owes_21 : decode cL_owes 21 = .ok (.iaload, 1) := by decide +kernel
theorem dL_owes_22 : decode cL_owes 22 = .ok (.iload_n 0, 1) := by decide +kernel
theorem dL_owes_23 : decode cL_owes 23 = .ok (.if_icmp .ne 16, 3) := by decide +kernel
theorem dL_owes_26 : decode cL_owes 26 = .ok (.iload 4, 2) := by decide +kernel
theorem dL_owes_28 : decode cL_owes 28 = .ok (.aload_n 3, 1) := by decide +kernel
theorem dL_owes_29 : decode cL_owes 29 = .ok (.iconst 3, 1) := by decide +kernel
theorem dL_owes_30 : decode cL_owes 30 = .ok (.iload 5, 2) := by decide +kernel
theorem dL_owes_32 : decode cL_owes 32 = .ok (.imul, 1) := by decide +kernel
theorem dL_owes_33 : decode cL_owes 33 = .ok (.iconst 2, 1) := by decide +kernel
theorem dL_owes_34 : decode cL_owes 34 = .ok (.iadd, 1) := by decide +kernel
theorem dL_owes_35 : decode cL_owes 35 = .ok (.iaload, 1) := by decide +kernel
theorem dL_owes_36 : decode cL_owes 36 = .ok (.iadd, 1) := by decide +kernel
theorem dL_owes_37 : decode cL_owes 37 = .ok (.istore 4, 2) := by decide +kernel
theorem dL_owes_39 : decode cL_owes 39 = .ok (.iinc 5 1, 3) := by decide +kernel
theorem dL_owes_42 : decode cL_owes 42 = .ok (.goto (-36), 3) := by decide +kernel
theorem dL_owes_45 : decode cL_owes 45 = .ok (.iload 4, 2) := by decide +kernel
theorem dL_owes_47 : decode cL_owes 47 = .ok (.ireturn, 1) := by decide +kernel
theorem dL_drop_0 : decode cL_drop 0 = .ok (.aload_n 0, 1) := by decide +kernel
theorem dL_drop_1 : decode cL_drop 1 = .ok (.iconst 1, 1) := by decide +kernel
theorem dL_drop_2 : decode cL_drop 2 = .ok (.iaload, 1) := by decide +kernel
theorem dL_drop_3 : decode cL_drop 3 = .ok (.iconst 1, 1) := by decide +kernel
theorem dL_drop_4 : decode cL_drop 4 = .ok (.isub, 1) := by decide +kernel
theorem dL_drop_5 : decode cL_drop 5 = .ok (.istore_n 2, 1) := by decide +kernel
theorem dL_drop_6 : decode cL_drop 6 = .ok (.iload_n 2, 1) := by decide +kernel
theorem dL_drop_7 : decode cL_drop 7 = .ok (.ifCond .lt 53, 3) := by decide +kernel
theorem dL_drop_10 : decode cL_drop 10 = .ok (.aload_n 1, 1) := by decide +kernel
theorem dL_drop_11 : decode cL_drop 11 = .ok (.iconst 3, 1) := by decide +kernel
theorem dL_drop_12 : decode cL_drop 12 = .ok (.iload_n 2, 1) := by decide +kernel
theorem dL_drop_13 : decode cL_drop 13 = .ok (.imul, 1) := by decide +kernel
theorem dL_drop_14 : decode cL_drop 14 = .ok (.iconst 2, 1) := by decide +kernel
theorem dL_drop_15 : decode cL_drop 15 = .ok (.iadd, 1) := by decide +kernel
theorem dL_drop_16 : decode cL_drop 16 = .ok (.iaload, 1) := by decide +kernel
theorem dL_drop_17 : decode cL_drop 17 = .ok (.ifCond .ne 37, 3) := by decide +kernel
theorem dL_drop_20 : decode cL_drop 20 = .ok (.aload_n 0, 1) := by decide +kernel
theorem dL_drop_21 : decode cL_drop 21 = .ok (.iconst 1, 1) := by decide +kernel
theorem dL_drop_22 : decode cL_drop 22 = .ok (.dup2, 1) := by decide +kernel
theorem dL_drop_23 : decode cL_drop 23 = .ok (.iaload, 1) := by decide +kernel
theorem dL_drop_24 : decode cL_drop 24 = .ok (.iconst 1, 1) := by decide +kernel
theorem dL_drop_25 : decode cL_drop 25 = .ok (.isub, 1) := by decide +kernel
theorem dL_drop_26 : decode cL_drop 26 = .ok (.iastore, 1) := by decide +kernel
theorem dL_drop_27 : decode cL_drop 27 = .ok (.iconst 3, 1) := by decide +kernel
theorem dL_drop_28 : decode cL_drop 28 = .ok (.iload_n 2, 1) := by decide +kernel
theorem dL_drop_29 : decode cL_drop 29 = .ok (.imul, 1) := by decide +kernel
theorem dL_drop_30 : decode cL_drop 30 = .ok (.istore_n 3, 1) := by decide +kernel
theorem dL_drop_31 : decode cL_drop 31 = .ok (.iload_n 3, 1) := by decide +kernel
theorem dL_drop_32 : decode cL_drop 32 = .ok (.iconst 3, 1) := by decide +kernel
theorem dL_drop_33 : decode cL_drop 33 = .ok (.aload_n 0, 1) := by decide +kernel
theorem dL_drop_34 : decode cL_drop 34 = .ok (.iconst 1, 1) := by decide +kernel
theorem dL_drop_35 : decode cL_drop 35 = .ok (.iaload, 1) := by decide +kernel
theorem dL_drop_36 : decode cL_drop 36 = .ok (.imul, 1) := by decide +kernel
theorem dL_drop_37 : decode cL_drop 37 = .ok (.if_icmp .ge 17, 3) := by decide +kernel
theorem dL_drop_40 : decode cL_drop 40 = .ok (.aload_n 1, 1) := by decide +kernel
theorem dL_drop_41 : decode cL_drop 41 = .ok (.iload_n 3, 1) := by decide +kernel
theorem dL_drop_42 : decode cL_drop 42 = .ok (.aload_n 1, 1) := by decide +kernel
theorem dL_drop_43 : decode cL_drop 43 = .ok (.iload_n 3, 1) := by decide +kernel
theorem dL_drop_44 : decode cL_drop 44 = .ok (.iconst 3, 1) := by decide +kernel
theorem dL_drop_45 : decode cL_drop 45 = .ok (.iadd, 1) := by decide +kernel
theorem dL_drop_46 : decode cL_drop 46 = .ok (.iaload, 1) := by decide +kernel
theorem dL_drop_47 : decode cL_drop 47 = .ok (.iastore, 1) := by decide +kernel
theorem dL_drop_48 : decode cL_drop 48 = .ok (.iinc 3 1, 3) := by decide +kernel
theorem dL_drop_51 : decode cL_drop 51 = .ok (.goto (-20), 3) := by decide +kernel
theorem dL_drop_54 : decode cL_drop 54 = .ok (.iinc 2 (-1), 3) := by decide +kernel
theorem dL_drop_57 : decode cL_drop 57 = .ok (.goto (-51), 3) := by decide +kernel
theorem dL_drop_60 : decode cL_drop 60 = .ok (.return_, 1) := by decide +kernel
theorem dL_token_0 : decode cL_token 0 = .ok (.bipush 6, 2) := by decide +kernel
theorem dL_token_2 : decode cL_token 2 = .ok (.iload_n 0, 1) := by decide +kernel
theorem dL_token_3 : decode cL_token 3 = .ok (.imul, 1) := by decide +kernel
theorem dL_token_4 : decode cL_token 4 = .ok (.istore 5, 2) := by decide +kernel
theorem dL_token_6 : decode cL_token 6 = .ok (.iload_n 1, 1) := by decide +kernel
theorem dL_token_7 : decode cL_token 7 = .ok (.aload_n 2, 1) := by decide +kernel
theorem dL_token_8 : decode cL_token 8 = .ok (.iconst 5, 1) := by decide +kernel
theorem dL_token_9 : decode cL_token 9 = .ok (.iaload, 1) := by decide +kernel
theorem dL_token_10 : decode cL_token 10 = .ok (.imul, 1) := by decide +kernel
theorem dL_token_11 : decode cL_token 11 = .ok (.bipush 100, 2) := by decide +kernel
theorem dL_token_13 : decode cL_token 13 = .ok (.idiv, 1) := by decide +kernel
theorem dL_token_14 : decode cL_token 14 = .ok (.istore 6, 2) := by decide +kernel
theorem dL_token_16 : decode cL_token 16 = .ok (.iload 6, 2) := by decide +kernel
theorem dL_token_18 : decode cL_token 18 = .ok (.aload_n 3, 1) := by decide +kernel
theorem dL_token_19 : decode cL_token 19 = .ok (.iload 5, 2) := by decide +kernel
theorem dL_token_21 : decode cL_token 21 = .ok (.iconst 2, 1) := by decide +kernel
theorem dL_token_22 : decode cL_token 22 = .ok (.iadd, 1) := by decide +kernel
theorem dL_token_23 : decode cL_token 23 = .ok (.iaload, 1) := by decide +kernel
theorem dL_token_24 : decode cL_token 24 = .ok (.if_icmp .le 11, 3) := by decide +kernel
theorem dL_token_27 : decode cL_token 27 = .ok (.aload_n 3, 1) := by decide +kernel
theorem dL_token_28 : decode cL_token 28 = .ok (.iload 5, 2) := by decide +kernel
theorem dL_token_30 : decode cL_token 30 = .ok (.iconst 2, 1) := by decide +kernel
theorem dL_token_31 : decode cL_token 31 = .ok (.iadd, 1) := by decide +kernel
theorem dL_token_32 : decode cL_token 32 = .ok (.iaload, 1) := by decide +kernel
theorem dL_token_33 : decode cL_token 33 = .ok (.istore 6, 2) := by decide +kernel
theorem dL_token_35 : decode cL_token 35 = .ok (.aload_n 3, 1) := by decide +kernel
theorem dL_token_36 : decode cL_token 36 = .ok (.iload 5, 2) := by decide +kernel
theorem dL_token_38 : decode cL_token 38 = .ok (.iconst 2, 1) := by decide +kernel
theorem dL_token_39 : decode cL_token 39 = .ok (.iadd, 1) := by decide +kernel
theorem dL_token_40 : decode cL_token 40 = .ok (.dup2, 1) := by decide +kernel
theorem dL_token_41 : decode cL_token 41 = .ok (.iaload, 1) := by decide +kernel
theorem dL_token_42 : decode cL_token 42 = .ok (.iload 6, 2) := by decide +kernel
theorem dL_token_44 : decode cL_token 44 = .ok (.isub, 1) := by decide +kernel
theorem dL_token_45 : decode cL_token 45 = .ok (.iastore, 1) := by decide +kernel
theorem dL_token_46 : decode cL_token 46 = .ok (.iload_n 1, 1) := by decide +kernel
theorem dL_token_47 : decode cL_token 47 = .ok (.iload 6, 2) := by decide +kernel
theorem dL_token_49 : decode cL_token 49 = .ok (.isub, 1) := by decide +kernel
theorem dL_token_50 : decode cL_token 50 = .ok (.aload_n 2, 1) := by decide +kernel
theorem dL_token_51 : decode cL_token 51 = .ok (.bipush 6, 2) := by decide +kernel
theorem dL_token_53 : decode cL_token 53 = .ok (.iaload, 1) := by decide +kernel
theorem dL_token_54 : decode cL_token 54 = .ok (.imul, 1) := by decide +kernel
theorem dL_token_55 : decode cL_token 55 = .ok (.bipush 100, 2) := by decide +kernel
theorem dL_token_57 : decode cL_token 57 = .ok (.idiv, 1) := by decide +kernel
theorem dL_token_58 : decode cL_token 58 = .ok (.istore 7, 2) := by decide +kernel
theorem dL_token_60 : decode cL_token 60 = .ok (.iload 7, 2) := by decide +kernel
theorem dL_token_62 : decode cL_token 62 = .ok (.iload_n 0, 1) := by decide +kernel
theorem dL_token_63 : decode cL_token 63 = .ok (.iconst 1, 1) := by decide +kernel
theorem dL_token_64 : decode cL_token 64 = .ok (.aload_n 2, 1) := by decide +kernel
theorem dL_token_65 : decode cL_token 65 = .ok (.aload 4, 2) := by decide +kernel
theorem dL_token_67 : decode cL_token 67 = .ok (.invokestatic 22, 3) := by decide +kernel
theorem dL_token_70 : decode cL_token 70 = .ok (.if_icmp .le 13, 3) := by decide +kernel
theorem dL_token_73 : decode cL_token 73 = .ok (.iload_n 0, 1) := by decide +kernel
theorem dL_token_74 : decode cL_token 74 = .ok (.iconst 1, 1) := by decide +kernel
theorem dL_token_75 : decode cL_token 75 = .ok (.aload_n 2, 1) := by decide +kernel
theorem dL_token_76 : decode cL_token 76 = .ok (.aload 4, 2) := by decide +kernel
theorem dL_token_78 : decode cL_token 78 = .ok (.invokestatic 22, 3) := by decide +kernel
theorem dL_token_81 : decode cL_token 81 = .ok (.istore 7, 2) := by decide +kernel
theorem dL_token_83 : decode cL_token 83 = .ok (.aload_n 3, 1) := by decide +kernel
theorem dL_token_84 : decode cL_token 84 = .ok (.iload 5, 2) := by decide +kernel
theorem dL_token_86 : decode cL_token 86 = .ok (.iconst 4, 1) := by decide +kernel
theorem dL_token_87 : decode cL_token 87 = .ok (.iadd, 1) := by decide +kernel
theorem dL_token_88 : decode cL_token 88 = .ok (.dup2, 1) := by decide +kernel
theorem dL_token_89 : decode cL_token 89 = .ok (.iaload, 1) := by decide +kernel
theorem dL_token_90 : decode cL_token 90 = .ok (.iload_n 1, 1) := by decide +kernel
theorem dL_token_91 : decode cL_token 91 = .ok (.iload 6, 2) := by decide +kernel
theorem dL_token_93 : decode cL_token 93 = .ok (.isub, 1) := by decide +kernel
theorem dL_token_94 : decode cL_token 94 = .ok (.iload 7, 2) := by decide +kernel
theorem dL_token_96 : decode cL_token 96 = .ok (.isub, 1) := by decide +kernel
theorem dL_token_97 : decode cL_token 97 = .ok (.iadd, 1) := by decide +kernel
theorem dL_token_98 : decode cL_token 98 = .ok (.iastore, 1) := by decide +kernel
theorem dL_token_99 : decode cL_token 99 = .ok (.iconst 0, 1) := by decide +kernel
theorem dL_token_100 : decode cL_token 100 = .ok (.istore 8, 2) := by decide +kernel
theorem dL_token_102 : decode cL_token 102 = .ok (.iload 7, 2) := by decide +kernel
theorem dL_token_104 : decode cL_token 104 = .ok (.ifCond .le 92, 3) := by decide +kernel
theorem dL_token_107 : decode cL_token 107 = .ok (.aload 4, 2) := by decide +kernel
theorem dL_token_109 : decode cL_token 109 = .ok (.iconst 3, 1) := by decide +kernel
theorem dL_token_110 : decode cL_token 110 = .ok (.iload 8, 2) := by decide +kernel
theorem dL_token_112 : decode cL_token 112 = .ok (.imul, 1) := by decide +kernel
theorem dL_token_113 : decode cL_token 113 = .ok (.iconst 1, 1) := by decide +kernel
theorem dL_token_114 : decode cL_token 114 = .ok (.iadd, 1) := by decide +kernel
theorem dL_token_115 : decode cL_token 115 = .ok (.iaload, 1) := by decide +kernel
theorem dL_token_116 : decode cL_token 116 = .ok (.iload_n 0, 1) := by decide +kernel
theorem dL_token_117 : decode cL_token 117 = .ok (.if_icmp .ne 73, 3) := by decide +kernel
theorem dL_token_120 : decode cL_token 120 = .ok (.iload 7, 2) := by decide +kernel
theorem dL_token_122 : decode cL_token 122 = .ok (.aload 4, 2) := by decide +kernel
theorem dL_token_124 : decode cL_token 124 = .ok (.iconst 3, 1) := by decide +kernel
theorem dL_token_125 : decode cL_token 125 = .ok (.iload 8, 2) := by decide +kernel
theorem dL_token_127 : decode cL_token 127 = .ok (.imul, 1) := by decide +kernel
theorem dL_token_128 : decode cL_token 128 = .ok (.iconst 2, 1) := by decide +kernel
theorem dL_token_129 : decode cL_token 129 = .ok (.iadd, 1) := by decide +kernel
theorem dL_token_130 : decode cL_token 130 = .ok (.iaload, 1) := by decide +kernel
theorem dL_token_131 : decode cL_token 131 = .ok (.if_icmp .le 15, 3) := by decide +kernel
theorem dL_token_134 : decode cL_token 134 = .ok (.aload 4, 2) := by decide +kernel
theorem dL_token_136 : decode cL_token 136 = .ok (.iconst 3, 1) := by decide +kernel
theorem dL_token_137 : decode cL_token 137 = .ok (.iload 8, 2) := by decide +kernel
theorem dL_token_139 : decode cL_token 139 = .ok (.imul, 1) := by decide +kernel
theorem dL_token_140 : decode cL_token 140 = .ok (.iconst 2, 1) := by decide +kernel
theorem dL_token_141 : decode cL_token 141 = .ok (.iadd, 1) := by decide +kernel
theorem dL_token_142 : decode cL_token 142 = .ok (.iaload, 1) := by decide +kernel
theorem dL_token_143 : decode cL_token 143 = .ok (.goto 5, 3) := by decide +kernel
theorem dL_token_146 : decode cL_token 146 = .ok (.iload 7, 2) := by decide +kernel
theorem dL_token_148 : decode cL_token 148 = .ok (.istore 9, 2) := by decide +kernel
theorem dL_token_150 : decode cL_token 150 = .ok (.aload 4, 2) := by decide +kernel
theorem dL_token_152 : decode cL_token 152 = .ok (.iconst 3, 1) := by decide +kernel
theorem dL_token_153 : decode cL_token 153 = .ok (.iload 8, 2) := by decide +kernel
theorem dL_token_155 : decode cL_token 155 = .ok (.imul, 1) := by decide +kernel
theorem dL_token_156 : decode cL_token 156 = .ok (.iconst 2, 1) := by decide +kernel
theorem dL_token_157 : decode cL_token 157 = .ok (.iadd, 1) := by decide +kernel
theorem dL_token_158 : decode cL_token 158 = .ok (.dup2, 1) := by decide +kernel
theorem dL_token_159 : decode cL_token 159 = .ok (.iaload, 1) := by decide +kernel
theorem dL_token_160 : decode cL_token 160 = .ok (.iload 9, 2) := by decide +kernel
theorem dL_token_162 : decode cL_token 162 = .ok (.isub, 1) := by decide +kernel
theorem dL_token_163 : decode cL_token 163 = .ok (.iastore, 1) := by decide +kernel
theorem dL_token_164 : decode cL_token 164 = .ok (.aload_n 3, 1) := by decide +kernel
theorem dL_token_165 : decode cL_token 165 = .ok (.bipush 6, 2) := by decide +kernel
theorem dL_token_167 : decode cL_token 167 = .ok (.aload 4, 2) := by decide +kernel
theorem dL_token_169 : decode cL_token 169 = .ok (.iconst 3, 1) := by decide +kernel
theorem dL_token_170 : decode cL_token 170 = .ok (.iload 8, 2) := by decide +kernel
theorem dL_token_172 : decode cL_token 172 = .ok (.imul, 1) := by decide +kernel
theorem dL_token_173 : decode cL_token 173 = .ok (.iaload, 1) := by decide +kernel
theorem dL_token_174 : decode cL_token 174 = .ok (.imul, 1) := by decide +kernel
theorem dL_token_175 : decode cL_token 175 = .ok (.iconst 4, 1) := by decide +kernel
theorem dL_token_176 : decode cL_token 176 = .ok (.iadd, 1) := by decide +kernel
theorem dL_token_177 : decode cL_token 177 = .ok (.dup2, 1) := by decide +kernel
theorem dL_token_178 : decode cL_token 178 = .ok (.iaload, 1) := by decide +kernel
theorem dL_token_179 : decode cL_token 179 = .ok (.iload 9, 2) := by decide +kernel
theorem dL_token_181 : decode cL_token 181 = .ok (.iadd, 1) := by decide +kernel
theorem dL_token_182 : decode cL_token 182 = .ok (.iastore, 1) := by decide +kernel
theorem dL_token_183 : decode cL_token 183 = .ok (.iload 7, 2) := by decide +kernel
theorem dL_token_185 : decode cL_token 185 = .ok (.iload 9, 2) := by decide +kernel
theorem dL_token_187 : decode cL_token 187 = .ok (.isub, 1) := by decide +kernel
theorem dL_token_188 : decode cL_token 188 = .ok (.istore 7, 2) := by decide +kernel
theorem dL_token_190 : decode cL_token 190 = .ok (.iinc 8 1, 3) := by decide +kernel
theorem dL_token_193 : decode cL_token 193 = .ok (.goto (-91), 3) := by decide +kernel
theorem dL_token_196 : decode cL_token 196 = .ok (.aload_n 2, 1) := by decide +kernel
theorem dL_token_197 : decode cL_token 197 = .ok (.aload 4, 2) := by decide +kernel
theorem dL_token_199 : decode cL_token 199 = .ok (.invokestatic 25, 3) := by decide +kernel
theorem dL_token_202 : decode cL_token 202 = .ok (.aload_n 2, 1) := by decide +kernel
theorem dL_token_203 : decode cL_token 203 = .ok (.bipush 13, 2) := by decide +kernel
theorem dL_token_205 : decode cL_token 205 = .ok (.dup2, 1) := by decide +kernel
theorem dL_token_206 : decode cL_token 206 = .ok (.iaload, 1) := by decide +kernel
theorem dL_token_207 : decode cL_token 207 = .ok (.iload_n 1, 1) := by decide +kernel
theorem dL_token_208 : decode cL_token 208 = .ok (.iadd, 1) := by decide +kernel
theorem dL_token_209 : decode cL_token 209 = .ok (.iastore, 1) := by decide +kernel
theorem dL_token_210 : decode cL_token 210 = .ok (.aload_n 2, 1) := by decide +kernel
theorem dL_token_211 : decode cL_token 211 = .ok (.bipush 14, 2) := by decide +kernel
theorem dL_token_213 : decode cL_token 213 = .ok (.dup2, 1) := by decide +kernel
theorem dL_token_214 : decode cL_token 214 = .ok (.iaload, 1) := by decide +kernel
theorem dL_token_215 : decode cL_token 215 = .ok (.iload 6, 2) := by decide +kernel
theorem dL_token_217 : decode cL_token 217 = .ok (.iadd, 1) := by decide +kernel
theorem dL_token_218 : decode cL_token 218 = .ok (.iastore, 1) := by decide +kernel
theorem dL_token_219 : decode cL_token 219 = .ok (.return_, 1) := by decide +kernel
theorem dL_fresh_0 : decode cL_fresh 0 = .ok (.aload_n 0, 1) := by decide +kernel
theorem dL_fresh_1 : decode cL_fresh 1 = .ok (.iconst 3, 1) := by decide +kernel
theorem dL_fresh_2 : decode cL_fresh 2 = .ok (.iconst 1, 1) := by decide +kernel
theorem dL_fresh_3 : decode cL_fresh 3 = .ok (.iastore, 1) := by decide +kernel
theorem dL_fresh_4 : decode cL_fresh 4 = .ok (.aload_n 0, 1) := by decide +kernel
theorem dL_fresh_5 : decode cL_fresh 5 = .ok (.iconst 4, 1) := by decide +kernel
theorem dL_fresh_6 : decode cL_fresh 6 = .ok (.iconst 5, 1) := by decide +kernel
theorem dL_fresh_7 : decode cL_fresh 7 = .ok (.iastore, 1) := by decide +kernel
theorem dL_fresh_8 : decode cL_fresh 8 = .ok (.aload_n 0, 1) := by decide +kernel
theorem dL_fresh_9 : decode cL_fresh 9 = .ok (.iconst 5, 1) := by decide +kernel
theorem dL_fresh_10 : decode cL_fresh 10 = .ok (.bipush 40, 2) := by decide +kernel
theorem dL_fresh_12 : decode cL_fresh 12 = .ok (.iastore, 1) := by decide +kernel
theorem dL_fresh_13 : decode cL_fresh 13 = .ok (.aload_n 0, 1) := by decide +kernel
theorem dL_fresh_14 : decode cL_fresh 14 = .ok (.bipush 6, 2) := by decide +kernel
theorem dL_fresh_16 : decode cL_fresh 16 = .ok (.bipush 50, 2) := by decide +kernel
theorem dL_fresh_18 : decode cL_fresh 18 = .ok (.iastore, 1) := by decide +kernel
theorem dL_fresh_19 : decode cL_fresh 19 = .ok (.aload_n 0, 1) := by decide +kernel
theorem dL_fresh_20 : decode cL_fresh 20 = .ok (.bipush 7, 2) := by decide +kernel
theorem dL_fresh_22 : decode cL_fresh 22 = .ok (.bipush 50, 2) := by decide +kernel
theorem dL_fresh_24 : decode cL_fresh 24 = .ok (.iastore, 1) := by decide +kernel
theorem dL_fresh_25 : decode cL_fresh 25 = .ok (.aload_n 0, 1) := by decide +kernel
theorem dL_fresh_26 : decode cL_fresh 26 = .ok (.bipush 15, 2) := by decide +kernel
theorem dL_fresh_28 : decode cL_fresh 28 = .ok (.iconst 1, 1) := by decide +kernel
theorem dL_fresh_29 : decode cL_fresh 29 = .ok (.iastore, 1) := by decide +kernel
theorem dL_fresh_30 : decode cL_fresh 30 = .ok (.aload_n 2, 1) := by decide +kernel
theorem dL_fresh_31 : decode cL_fresh 31 = .ok (.iconst 0, 1) := by decide +kernel
theorem dL_fresh_32 : decode cL_fresh 32 = .ok (.bipush 20, 2) := by decide +kernel
theorem dL_fresh_34 : decode cL_fresh 34 = .ok (.iastore, 1) := by decide +kernel
theorem dL_fresh_35 : decode cL_fresh 35 = .ok (.iconst 0, 1) := by decide +kernel
theorem dL_fresh_36 : decode cL_fresh 36 = .ok (.istore_n 3, 1) := by decide +kernel
theorem dL_fresh_37 : decode cL_fresh 37 = .ok (.iload_n 3, 1) := by decide +kernel
theorem dL_fresh_38 : decode cL_fresh 38 = .ok (.iconst 2, 1) := by decide +kernel
theorem dL_fresh_39 : decode cL_fresh 39 = .ok (.if_icmp .ge 27, 3) := by decide +kernel
theorem dL_fresh_42 : decode cL_fresh 42 = .ok (.aload_n 1, 1) := by decide +kernel
theorem dL_fresh_43 : decode cL_fresh 43 = .ok (.iconst 4, 1) := by decide +kernel
theorem dL_fresh_44 : decode cL_fresh 44 = .ok (.iload_n 3, 1) := by decide +kernel
theorem dL_fresh_45 : decode cL_fresh 45 = .ok (.imul, 1) := by decide +kernel
theorem dL_fresh_46 : decode cL_fresh 46 = .ok (.iconst 1, 1) := by decide +kernel
theorem dL_fresh_47 : decode cL_fresh 47 = .ok (.iadd, 1) := by decide +kernel
theorem dL_fresh_48 : decode cL_fresh 48 = .ok (.bipush 20, 2) := by decide +kernel
theorem dL_fresh_50 : decode cL_fresh 50 = .ok (.iastore, 1) := by decide +kernel
theorem dL_fresh_51 : decode cL_fresh 51 = .ok (.aload_n 1, 1) := by decide +kernel
theorem dL_fresh_52 : decode cL_fresh 52 = .ok (.iconst 4, 1) := by decide +kernel
theorem dL_fresh_53 : decode cL_fresh 53 = .ok (.iload_n 3, 1) := by decide +kernel
theorem dL_fresh_54 : decode cL_fresh 54 = .ok (.imul, 1) := by decide +kernel
theorem dL_fresh_55 : decode cL_fresh 55 = .ok (.iconst 2, 1) := by decide +kernel
theorem dL_fresh_56 : decode cL_fresh 56 = .ok (.iadd, 1) := by decide +kernel
theorem dL_fresh_57 : decode cL_fresh 57 = .ok (.bipush 90, 2) := by decide +kernel
theorem dL_fresh_59 : decode cL_fresh 59 = .ok (.iastore, 1) := by decide +kernel
theorem dL_fresh_60 : decode cL_fresh 60 = .ok (.iinc 3 1, 3) := by decide +kernel
theorem dL_fresh_63 : decode cL_fresh 63 = .ok (.goto (-26), 3) := by decide +kernel
theorem dL_fresh_66 : decode cL_fresh 66 = .ok (.return_, 1) := by decide +kernel
theorem dL_house_0 : decode cL_house 0 = .ok (.aload_n 3, 1) := by decide +kernel
theorem dL_house_1 : decode cL_house 1 = .ok (.iconst 0, 1) := by decide +kernel
theorem dL_house_2 : decode cL_house 2 = .ok (.iaload, 1) := by decide +kernel
theorem dL_house_3 : decode cL_house 3 = .ok (.bipush 8, 2) := by decide +kernel
theorem dL_house_5 : decode cL_house 5 = .ok (.if_icmp .ne 5, 3) := by decide +kernel
theorem dL_house_8 : decode cL_house 8 = .ok (.iconst 1, 1) := by decide +kernel
theorem dL_house_9 : decode cL_house 9 = .ok (.ireturn, 1) := by decide +kernel
theorem dL_house_10 : decode cL_house 10 = .ok (.aload_n 3, 1) := by decide +kernel
theorem dL_house_11 : decode cL_house 11 = .ok (.iconst 0, 1) := by decide +kernel
theorem dL_house_12 : decode cL_house 12 = .ok (.dup2, 1) := by decide +kernel
theorem dL_house_13 : decode cL_house 13 = .ok (.iaload, 1) := by decide +kernel
theorem dL_house_14 : decode cL_house 14 = .ok (.dup_x2, 1) := by decide +kernel
theorem dL_house_15 : decode cL_house 15 = .ok (.iconst 1, 1) := by decide +kernel
theorem dL_house_16 : decode cL_house 16 = .ok (.iadd, 1) := by decide +kernel
theorem dL_house_17 : decode cL_house 17 = .ok (.iastore, 1) := by decide +kernel
theorem dL_house_18 : decode cL_house 18 = .ok (.istore 6, 2) := by decide +kernel
theorem dL_house_20 : decode cL_house 20 = .ok (.iconst 0, 1) := by decide +kernel
theorem dL_house_21 : decode cL_house 21 = .ok (.istore 7, 2) := by decide +kernel
theorem dL_house_23 : decode cL_house 23 = .ok (.iload 7, 2) := by decide +kernel
theorem dL_house_25 : decode cL_house 25 = .ok (.bipush 6, 2) := by decide +kernel
theorem dL_house_27 : decode cL_house 27 = .ok (.if_icmp .ge 21, 3) := by decide +kernel
theorem dL_house_30 : decode cL_house 30 = .ok (.aload 4, 2) := by decide +kernel
theorem dL_house_32 : decode cL_house 32 = .ok (.bipush 6, 2) := by decide +kernel
theorem dL_house_34 : decode cL_house 34 = .ok (.iload 6, 2) := by decide +kernel
theorem dL_house_36 : decode cL_house 36 = .ok (.imul, 1) := by decide +kernel
theorem dL_house_37 : decode cL_house 37 = .ok (.iload 7, 2) := by decide +kernel
theorem dL_house_39 : decode cL_house 39 = .ok (.iadd, 1) := by decide +kernel
theorem dL_house_40 : decode cL_house 40 = .ok (.iconst 0, 1) := by decide +kernel
theorem dL_house_41 : decode cL_house 41 = .ok (.iastore, 1) := by decide +kernel
theorem dL_house_42 : decode cL_house 42 = .ok (.iinc 7 1, 3) := by decide +kernel
theorem dL_house_45 : decode cL_house 45 = .ok (.goto (-22), 3) := by decide +kernel
theorem dL_house_48 : decode cL_house 48 = .ok (.aload 4, 2) := by decide +kernel
theorem dL_house_50 : decode cL_house 50 = .ok (.bipush 6, 2) := by decide +kernel
theorem dL_house_52 : decode cL_house 52 = .ok (.iload 6, 2) := by decide +kernel
theorem dL_house_54 : decode cL_house 54 = .ok (.imul, 1) := by decide +kernel
theorem dL_house_55 : decode cL_house 55 = .ok (.iload_n 1, 1) := by decide +kernel
theorem dL_house_56 : decode cL_house 56 = .ok (.iconst 3, 1) := by decide +kernel
theorem dL_house_57 : decode cL_house 57 = .ok (.invokestatic 29, 3) := by decide +kernel
theorem dL_house_60 : decode cL_house 60 = .ok (.iastore, 1) := by decide +kernel
theorem dL_house_61 : decode cL_house 61 = .ok (.aload 4, 2) := by decide +kernel
theorem dL_house_63 : decode cL_house 63 = .ok (.bipush 6, 2) := by decide +kernel
theorem dL_house_65 : decode cL_house 65 = .ok (.iload 6, 2) := by decide +kernel
theorem dL_house_67 : decode cL_house 67 = .ok (.imul, 1) := by decide +kernel
theorem dL_house_68 : decode cL_house 68 = .ok (.iconst 1, 1) := by decide +kernel
theorem dL_house_69 : decode cL_house 69 = .ok (.iadd, 1) := by decide +kernel
theorem dL_house_70 : decode cL_house 70 = .ok (.iload_n 2, 1) := by decide +kernel
theorem dL_house_71 : decode cL_house 71 = .ok (.iload_n 1, 1) := by decide +kernel
theorem dL_house_72 : decode cL_house 72 = .ok (.iconst 5, 1) := by decide +kernel
theorem dL_house_73 : decode cL_house 73 = .ok (.ishr, 1) := by decide +kernel
theorem dL_house_74 : decode cL_house 74 = .ok (.iconst 4, 1) := by decide +kernel
theorem dL_house_75 : decode cL_house 75 = .ok (.invokestatic 29, 3) := by decide +kernel
theorem dL_house_78 : decode cL_house 78 = .ok (.ifCond .ne 8, 3) := by decide +kernel
theorem dL_house_81 : decode cL_house 81 = .ok (.bipush 51, 2) := by decide +kernel
theorem dL_house_83 : decode cL_house 83 = .ok (.goto 5, 3) := by decide +kernel
theorem dL_house_86 : decode cL_house 86 = .ok (.bipush 15, 2) := by decide +kernel
theorem dL_house_88 : decode cL_house 88 = .ok (.invokestatic 29, 3) := by decide +kernel
theorem dL_house_91 : decode cL_house 91 = .ok (.iastore, 1) := by decide +kernel
theorem dL_house_92 : decode cL_house 92 = .ok (.aload 4, 2) := by decide +kernel
theorem dL_house_94 : decode cL_house 94 = .ok (.bipush 6, 2) := by decide +kernel
theorem dL_house_96 : decode cL_house 96 = .ok (.iload 6, 2) := by decide +kernel
theorem dL_house_98 : decode cL_house 98 = .ok (.imul, 1) := by decide +kernel
theorem dL_house_99 : decode cL_house 99 = .ok (.iconst 3, 1) := by decide +kernel
theorem dL_house_100 : decode cL_house 100 = .ok (.iadd, 1) := by decide +kernel
theorem dL_house_101 : decode cL_house 101 = .ok (.iconst 1, 1) := by decide +kernel
theorem dL_house_102 : decode cL_house 102 = .ok (.iastore, 1) := by decide +kernel
theorem dL_house_103 : decode cL_house 103 = .ok (.aload 5, 2) := by decide +kernel
theorem dL_house_105 : decode cL_house 105 = .ok (.iload 6, 2) := by decide +kernel
theorem dL_house_107 : decode cL_house 107 = .ok (.iconst 0, 1) := by decide +kernel
theorem dL_house_108 : decode cL_house 108 = .ok (.iastore, 1) := by decide +kernel
theorem dL_house_109 : decode cL_house 109 = .ok (.aload 5, 2) := by decide +kernel
theorem dL_house_111 : decode cL_house 111 = .ok (.bipush 8, 2) := by decide +kernel
theorem dL_house_113 : decode cL_house 113 = .ok (.iload 6, 2) := by decide +kernel
theorem dL_house_115 : decode cL_house 115 = .ok (.iadd, 1) := by decide +kernel
theorem dL_house_116 : decode cL_house 116 = .ok (.iconst 0, 1) := by decide +kernel
theorem dL_house_117 : decode cL_house 117 = .ok (.iastore, 1) := by decide +kernel
theorem dL_house_118 : decode cL_house 118 = .ok (.aload_n 0, 1) := by decide +kernel
theorem dL_house_119 : decode cL_house 119 = .ok (.aload 4, 2) := by decide +kernel
theorem dL_house_121 : decode cL_house 121 = .ok (.bipush 6, 2) := by decide +kernel
theorem dL_house_123 : decode cL_house 123 = .ok (.iload 6, 2) := by decide +kernel
theorem dL_house_125 : decode cL_house 125 = .ok (.imul, 1) := by decide +kernel
theorem dL_house_126 : decode cL_house 126 = .ok (.iaload, 1) := by decide +kernel
theorem dL_house_127 : decode cL_house 127 = .ok (.aload 4, 2) := by decide +kernel
theorem dL_house_129 : decode cL_house 129 = .ok (.bipush 6, 2) := by decide +kernel
theorem dL_house_131 : decode cL_house 131 = .ok (.iload 6, 2) := by decide +kernel
theorem dL_house_133 : decode cL_house 133 = .ok (.imul, 1) := by decide +kernel
theorem dL_house_134 : decode cL_house 134 = .ok (.iconst 1, 1) := by decide +kernel
theorem dL_house_135 : decode cL_house 135 = .ok (.iadd, 1) := by decide +kernel
theorem dL_house_136 : decode cL_house 136 = .ok (.iaload, 1) := by decide +kernel
theorem dL_house_137 : decode cL_house 137 = .ok (.invokevirtual 33, 3) := by decide +kernel
theorem dL_house_140 : decode cL_house 140 = .ok (.iload 6, 2) := by decide +kernel
theorem dL_house_142 : decode cL_house 142 = .ok (.if_icmp .ne 7, 3) := by decide +kernel
theorem dL_house_145 : decode cL_house 145 = .ok (.iconst 1, 1) := by decide +kernel
theorem dL_house_146 : decode cL_house 146 = .ok (.goto 4, 3) := by decide +kernel
theorem dL_house_149 : decode cL_house 149 = .ok (.iconst 0, 1) := by decide +kernel
theorem dL_house_150 : decode cL_house 150 = .ok (.ireturn, 1) := by decide +kernel
theorem dL_set_0 : decode cL_set 0 = .ok (.iload_n 1, 1) := by decide +kernel
theorem dL_set_1 : decode cL_set 1 = .ok (.iconst 3, 1) := by decide +kernel
theorem dL_set_2 : decode cL_set 2 = .ok (.invokestatic 29, 3) := by decide +kernel
theorem dL_set_5 : decode cL_set 5 = .ok (.istore 6, 2) := by decide +kernel
theorem dL_set_7 : decode cL_set 7 = .ok (.iload 6, 2) := by decide +kernel
theorem dL_set_9 : decode cL_set 9 = .ok (.ifCond .ne 136, 3) := by decide +kernel
theorem dL_set_12 : decode cL_set 12 = .ok (.aload_n 3, 1) := by decide +kernel
theorem dL_set_13 : decode cL_set 13 = .ok (.iconst 0, 1) := by decide +kernel
theorem dL_set_14 : decode cL_set 14 = .ok (.iaload, 1) := by decide +kernel
theorem dL_set_15 : decode cL_set 15 = .ok (.ifCond .le 130, 3) := by decide +kernel
theorem dL_set_18 : decode cL_set 18 = .ok (.iload_n 1, 1) := by decide +kernel
theorem dL_set_19 : decode cL_set 19 = .ok (.iconst 3, 1) := by decide +kernel
theorem dL_set_20 : decode cL_set 20 = .ok (.ishr, 1) := by decide +kernel
theorem dL_set_21 : decode cL_set 21 = .ok (.iconst 4, 1) := by decide +kernel
theorem dL_set_22 : decode cL_set 22 = .ok (.invokestatic 29, 3) := by decide +kernel
theorem dL_set_25 : decode cL_set 25 = .ok (.istore 7, 2) := by decide +kernel
theorem dL_set_27 : decode cL_set 27 = .ok (.iload_n 1, 1) := by decide +kernel
theorem dL_set_28 : decode cL_set 28 = .ok (.bipush 6, 2) := by decide +kernel
theorem dL_set_30 : decode cL_set 30 = .ok (.ishr, 1) := by decide +kernel
theorem dL_set_31 : decode cL_set 31 = .ok (.aload_n 3, 1) := by decide +kernel
theorem dL_set_32 : decode cL_set 32 = .ok (.iconst 0, 1) := by decide +kernel
theorem dL_set_33 : decode cL_set 33 = .ok (.iaload, 1) := by decide +kernel
theorem dL_set_34 : decode cL_set 34 = .ok (.invokestatic 29, 3) := by decide +kernel
theorem dL_set_37 : decode cL_set 37 = .ok (.istore 8, 2) := by decide +kernel
theorem dL_set_39 : decode cL_set 39 = .ok (.iload 7, 2) := by decide +kernel
theorem dL_set_41 : decode cL_set 41 = .ok (.ifCond .ne 11, 3) := by decide +kernel
theorem dL_set_44 : decode cL_set 44 = .ok (.iload_n 2, 1) := by decide +kernel
theorem dL_set_45 : decode cL_set 45 = .ok (.iconst 3, 1) := by decide +kernel
theorem dL_set_46 : decode cL_set 46 = .ok (.invokestatic 29, 3) := by decide +kernel
theorem dL_set_49 : decode cL_set 49 = .ok (.goto 47, 3) := by decide +kernel
theorem dL_set_52 : decode cL_set 52 = .ok (.iload 7, 2) := by decide +kernel
theorem dL_set_54 : decode cL_set 54 = .ok (.iconst 1, 1) := by decide +kernel
theorem dL_set_55 : decode cL_set 55 = .ok (.if_icmp .ne 12, 3) := by decide +kernel
theorem dL_set_58 : decode cL_set 58 = .ok (.iload_n 2, 1) := by decide +kernel
theorem dL_set_59 : decode cL_set 59 = .ok (.bipush 30, 2) := by decide +kernel
theorem dL_set_61 : decode cL_set 61 = .ok (.invokestatic 29, 3) := by decide +kernel
theorem dL_set_64 : decode cL_set 64 = .ok (.goto 32, 3) := by decide +kernel
theorem dL_set_67 : decode cL_set 67 = .ok (.iload 7, 2) := by decide +kernel
theorem dL_set_69 : decode cL_set 69 = .ok (.iconst 2, 1) := by decide +kernel
theorem dL_set_70 : decode cL_set 70 = .ok (.if_icmp .ne 13, 3) := by decide +kernel
theorem dL_set_73 : decode cL_set 73 = .ok (.iload_n 2, 1) := by decide +kernel
theorem dL_set_74 : decode cL_set 74 = .ok (.sipush 400, 3) := by decide +kernel
theorem dL_set_77 : decode cL_set 77 = .ok (.invokestatic 29, 3) := by decide +kernel
theorem dL_set_80 : decode cL_set 80 = .ok (.goto 16, 3) := by decide +kernel
theorem dL_set_83 : decode cL_set 83 = .ok (.iload_n 2, 1) := by decide +kernel
theorem dL_set_84 : decode cL_set 84 = .ok (.iconst 3, 1) := by decide +kernel
theorem dL_set_85 : decode cL_set 85 = .ok (.invokestatic 29, 3) := by decide +kernel
theorem dL_set_88 : decode cL_set 88 = .ok (.ifCond .ne 7, 3) := by decide +kernel
theorem dL_set_91 : decode cL_set 91 = .ok (.iconst 0, 1) := by decide +kernel
theorem dL_set_92 : decode cL_set 92 = .ok (.goto 4, 3) := by decide +kernel
theorem dL_set_95 : decode cL_set 95 = .ok (.iconst 1, 1) := by decide +kernel
theorem dL_set_96 : decode cL_set 96 = .ok (.istore 9, 2) := by decide +kernel
theorem dL_set_98 : decode cL_set 98 = .ok (.aload 4, 2) := by decide +kernel
theorem dL_set_100 : decode cL_set 100 = .ok (.bipush 6, 2) := by decide +kernel
theorem dL_set_102 : decode cL_set 102 = .ok (.iload 8, 2) := by decide +kernel
theorem dL_set_104 : decode cL_set 104 = .ok (.imul, 1) := by decide +kernel
theorem dL_set_105 : decode cL_set 105 = .ok (.iload 7, 2) := by decide +kernel
theorem dL_set_107 : decode cL_set 107 = .ok (.iadd, 1) := by decide +kernel
theorem dL_set_108 : decode cL_set 108 = .ok (.iaload, 1) := by decide +kernel
theorem dL_set_109 : decode cL_set 109 = .ok (.istore 10, 2) := by decide +kernel
theorem dL_set_111 : decode cL_set 111 = .ok (.aload 4, 2) := by decide +kernel
theorem dL_set_113 : decode cL_set 113 = .ok (.bipush 6, 2) := by decide +kernel
theorem dL_set_115 : decode cL_set 115 = .ok (.iload 8, 2) := by decide +kernel
theorem dL_set_117 : decode cL_set 117 = .ok (.imul, 1) := by decide +kernel
theorem dL_set_118 : decode cL_set 118 = .ok (.iload 7, 2) := by decide +kernel
theorem dL_set_120 : decode cL_set 120 = .ok (.iadd, 1) := by decide +kernel
theorem dL_set_121 : decode cL_set 121 = .ok (.iload 9, 2) := by decide +kernel
theorem dL_set_123 : decode cL_set 123 = .ok (.iastore, 1) := by decide +kernel
theorem dL_set_124 : decode cL_set 124 = .ok (.aload_n 0, 1) := by decide +kernel
theorem dL_set_125 : decode cL_set 125 = .ok (.iload 8, 2) := by decide +kernel
theorem dL_set_127 : decode cL_set 127 = .ok (.iload 7, 2) := by decide +kernel
theorem dL_set_129 : decode cL_set 129 = .ok (.iload 9, 2) := by decide +kernel
theorem dL_set_131 : decode cL_set 131 = .ok (.invokevirtual 38, 3) := by decide +kernel
theorem dL_set_134 : decode cL_set 134 = .ok (.iload 10, 2) := by decide +kernel
theorem dL_set_136 : decode cL_set 136 = .ok (.if_icmp .ne 7, 3) := by decide +kernel
theorem dL_set_139 : decode cL_set 139 = .ok (.iconst 1, 1) := by decide +kernel
theorem dL_set_140 : decode cL_set 140 = .ok (.goto 4, 3) := by decide +kernel
theorem dL_set_143 : decode cL_set 143 = .ok (.iconst 0, 1) := by decide +kernel
theorem dL_set_144 : decode cL_set 144 = .ok (.ireturn, 1) := by decide +kernel
theorem dL_set_145 : decode cL_set 145 = .ok (.iload 6, 2) := by decide +kernel
theorem dL_set_147 : decode cL_set 147 = .ok (.iconst 1, 1) := by decide +kernel
theorem dL_set_148 : decode cL_set 148 = .ok (.if_icmp .ne 65, 3) := by decide +kernel
theorem dL_set_151 : decode cL_set 151 = .ok (.iload_n 1, 1) := by decide +kernel
theorem dL_set_152 : decode cL_set 152 = .ok (.iconst 3, 1) := by decide +kernel
theorem dL_set_153 : decode cL_set 153 = .ok (.ishr, 1) := by decide +kernel
theorem dL_set_154 : decode cL_set 154 = .ok (.iconst 4, 1) := by decide +kernel
theorem dL_set_155 : decode cL_set 155 = .ok (.invokestatic 29, 3) := by decide +kernel
theorem dL_set_158 : decode cL_set 158 = .ok (.istore 7, 2) := by decide +kernel
theorem dL_set_160 : decode cL_set 160 = .ok (.aload_n 3, 1) := by decide +kernel
theorem dL_set_161 : decode cL_set 161 = .ok (.iconst 4, 1) := by decide +kernel
theorem dL_set_162 : decode cL_set 162 = .ok (.iload 7, 2) := by decide +kernel
theorem dL_set_164 : decode cL_set 164 = .ok (.iadd, 1) := by decide +kernel
theorem dL_set_165 : decode cL_set 165 = .ok (.iaload, 1) := by decide +kernel
theorem dL_set_166 : decode cL_set 166 = .ok (.istore 8, 2) := by decide +kernel
theorem dL_set_168 : decode cL_set 168 = .ok (.aload_n 3, 1) := by decide +kernel
theorem dL_set_169 : decode cL_set 169 = .ok (.iconst 4, 1) := by decide +kernel
theorem dL_set_170 : decode cL_set 170 = .ok (.iload 7, 2) := by decide +kernel
theorem dL_set_172 : decode cL_set 172 = .ok (.iadd, 1) := by decide +kernel
theorem dL_set_173 : decode cL_set 173 = .ok (.iload_n 2, 1) := by decide +kernel
theorem dL_set_174 : decode cL_set 174 = .ok (.iload 7, 2) := by decide +kernel
theorem dL_set_176 : decode cL_set 176 = .ok (.ifCond .ne 8, 3) := by decide +kernel
theorem dL_set_179 : decode cL_set 179 = .ok (.bipush 51, 2) := by decide +kernel
theorem dL_set_181 : decode cL_set 181 = .ok (.goto 5, 3) := by decide +kernel
theorem dL_set_184 : decode cL_set 184 = .ok (.bipush 101, 2) := by decide +kernel
theorem dL_set_186 : decode cL_set 186 = .ok (.invokestatic 29, 3) := by decide +kernel
theorem dL_set_189 : decode cL_set 189 = .ok (.iastore, 1) := by decide +kernel
theorem dL_set_190 : decode cL_set 190 = .ok (.aload_n 0, 1) := by decide +kernel
theorem dL_set_191 : decode cL_set 191 = .ok (.iload 7, 2) := by decide +kernel
theorem dL_set_193 : decode cL_set 193 = .ok (.aload_n 3, 1) := by decide +kernel
theorem dL_set_194 : decode cL_set 194 = .ok (.iconst 4, 1) := by decide +kernel
theorem dL_set_195 : decode cL_set 195 = .ok (.iload 7, 2) := by decide +kernel
theorem dL_set_197 : decode cL_set 197 = .ok (.iadd, 1) := by decide +kernel
theorem dL_set_198 : decode cL_set 198 = .ok (.iaload, 1) := by decide +kernel
theorem dL_set_199 : decode cL_set 199 = .ok (.invokevirtual 42, 3) := by decide +kernel
theorem dL_set_202 : decode cL_set 202 = .ok (.iload 8, 2) := by decide +kernel
theorem dL_set_204 : decode cL_set 204 = .ok (.if_icmp .ne 7, 3) := by decide +kernel
theorem dL_set_207 : decode cL_set 207 = .ok (.iconst 1, 1) := by decide +kernel
theorem dL_set_208 : decode cL_set 208 = .ok (.goto 4, 3) := by decide +kernel
theorem dL_set_211 : decode cL_set 211 = .ok (.iconst 0, 1) := by decide +kernel
theorem dL_set_212 : decode cL_set 212 = .ok (.ireturn, 1) := by decide +kernel
theorem dL_set_213 : decode cL_set 213 = .ok (.iload_n 1, 1) := by decide +kernel
theorem dL_set_214 : decode cL_set 214 = .ok (.iconst 3, 1) := by decide +kernel
theorem dL_set_215 : decode cL_set 215 = .ok (.ishr, 1) := by decide +kernel
theorem dL_set_216 : decode cL_set 216 = .ok (.iconst 2, 1) := by decide +kernel
theorem dL_set_217 : decode cL_set 217 = .ok (.invokestatic 29, 3) := by decide +kernel
theorem dL_set_220 : decode cL_set 220 = .ok (.istore 7, 2) := by decide +kernel
theorem dL_set_222 : decode cL_set 222 = .ok (.iload_n 1, 1) := by decide +kernel
theorem dL_set_223 : decode cL_set 223 = .ok (.iconst 4, 1) := by decide +kernel
theorem dL_set_224 : decode cL_set 224 = .ok (.ishr, 1) := by decide +kernel
theorem dL_set_225 : decode cL_set 225 = .ok (.iconst 3, 1) := by decide +kernel
theorem dL_set_226 : decode cL_set 226 = .ok (.invokestatic 29, 3) := by decide +kernel
theorem dL_set_229 : decode cL_set 229 = .ok (.istore 8, 2) := by decide +kernel
theorem dL_set_231 : decode cL_set 231 = .ok (.iconst 4, 1) := by decide +kernel
theorem dL_set_232 : decode cL_set 232 = .ok (.iload 7, 2) := by decide +kernel
theorem dL_set_234 : decode cL_set 234 = .ok (.imul, 1) := by decide +kernel
theorem dL_set_235 : decode cL_set 235 = .ok (.istore 9, 2) := by decide +kernel
theorem dL_set_237 : decode cL_set 237 = .ok (.aload 5, 2) := by decide +kernel
theorem dL_set_239 : decode cL_set 239 = .ok (.iload 9, 2) := by decide +kernel
theorem dL_set_241 : decode cL_set 241 = .ok (.iload 8, 2) := by decide +kernel
theorem dL_set_243 : decode cL_set 243 = .ok (.iadd, 1) := by decide +kernel
theorem dL_set_244 : decode cL_set 244 = .ok (.iaload, 1) := by decide +kernel
theorem dL_set_245 : decode cL_set 245 = .ok (.istore 10, 2) := by decide +kernel
theorem dL_set_247 : decode cL_set 247 = .ok (.aload 5, 2) := by decide +kernel
theorem dL_set_249 : decode cL_set 249 = .ok (.iload 9, 2) := by decide +kernel
theorem dL_set_251 : decode cL_set 251 = .ok (.iload 8, 2) := by decide +kernel
theorem dL_set_253 : decode cL_set 253 = .ok (.iadd, 1) := by decide +kernel
theorem dL_set_254 : decode cL_set 254 = .ok (.iload 8, 2) := by decide +kernel
theorem dL_set_256 : decode cL_set 256 = .ok (.ifCond .ne 13, 3) := by decide +kernel
theorem dL_set_259 : decode cL_set 259 = .ok (.iload_n 2, 1) := by decide +kernel
theorem dL_set_260 : decode cL_set 260 = .ok (.sipush 200, 3) := by decide +kernel
theorem dL_set_263 : decode cL_set 263 = .ok (.invokestatic 29, 3) := by decide +kernel
theorem dL_set_266 : decode cL_set 266 = .ok (.goto 27, 3) := by decide +kernel
theorem dL_set_269 : decode cL_set 269 = .ok (.iload 8, 2) := by decide +kernel
theorem dL_set_271 : decode cL_set 271 = .ok (.iconst 1, 1) := by decide +kernel
theorem dL_set_272 : decode cL_set 272 = .ok (.if_icmp .ne 12, 3) := by decide +kernel
theorem dL_set_275 : decode cL_set 275 = .ok (.iload_n 2, 1) := by decide +kernel
theorem dL_set_276 : decode cL_set 276 = .ok (.bipush 60, 2) := by decide +kernel
theorem dL_set_278 : decode cL_set 278 = .ok (.invokestatic 29, 3) := by decide +kernel
theorem dL_set_281 : decode cL_set 281 = .ok (.goto 12, 3) := by decide +kernel
theorem dL_set_284 : decode cL_set 284 = .ok (.bipush 50, 2) := by decide +kernel
theorem dL_set_286 : decode cL_set 286 = .ok (.iload_n 2, 1) := by decide +kernel
theorem dL_set_287 : decode cL_set 287 = .ok (.bipush 51, 2) := by decide +kernel
theorem dL_set_289 : decode cL_set 289 = .ok (.invokestatic 29, 3) := by decide +kernel
theorem dL_set_292 : decode cL_set 292 = .ok (.iadd, 1) := by decide +kernel
theorem dL_set_293 : decode cL_set 293 = .ok (.iastore, 1) := by decide +kernel
theorem dL_set_294 : decode cL_set 294 = .ok (.aload 5, 2) := by decide +kernel
theorem dL_set_296 : decode cL_set 296 = .ok (.iload 9, 2) := by decide +kernel
theorem dL_set_298 : decode cL_set 298 = .ok (.iconst 3, 1) := by decide +kernel
theorem dL_set_299 : decode cL_set 299 = .ok (.iadd, 1) := by decide +kernel
theorem dL_set_300 : decode cL_set 300 = .ok (.iaload, 1) := by decide +kernel
theorem dL_set_301 : decode cL_set 301 = .ok (.aload 5, 2) := by decide +kernel
theorem dL_set_303 : decode cL_set 303 = .ok (.iload 9, 2) := by decide +kernel
theorem dL_set_305 : decode cL_set 305 = .ok (.iaload, 1) := by decide +kernel
theorem dL_set_306 : decode cL_set 306 = .ok (.if_icmp .le 35, 3) := by decide +kernel
theorem dL_set_309 : decode cL_set 309 = .ok (.aload_n 3, 1) := by decide +kernel
theorem dL_set_310 : decode cL_set 310 = .ok (.bipush 12, 2) := by decide +kernel
theorem dL_set_312 : decode cL_set 312 = .ok (.dup2, 1) := by decide +kernel
theorem dL_set_313 : decode cL_set 313 = .ok (.iaload, 1) := by decide +kernel
theorem dL_set_314 : decode cL_set 314 = .ok (.aload 5, 2) := by decide +kernel
theorem dL_set_316 : decode cL_set 316 = .ok (.iload 9, 2) := by decide +kernel
theorem dL_set_318 : decode cL_set 318 = .ok (.iconst 3, 1) := by decide +kernel
theorem dL_set_319 : decode cL_set 319 = .ok (.iadd, 1) := by decide +kernel
theorem dL_set_320 : decode cL_set 320 = .ok (.iaload, 1) := by decide +kernel
theorem dL_set_321 : decode cL_set 321 = .ok (.aload 5, 2) := by decide +kernel
theorem dL_set_323 : decode cL_set 323 = .ok (.iload 9, 2) := by decide +kernel
theorem dL_set_325 : decode cL_set 325 = .ok (.iaload, 1) := by decide +kernel
theorem dL_set_326 : decode cL_set 326 = .ok (.isub, 1) := by decide +kernel
theorem dL_set_327 : decode cL_set 327 = .ok (.iadd, 1) := by decide +kernel
theorem dL_set_328 : decode cL_set 328 = .ok (.iastore, 1) := by decide +kernel
theorem dL_set_329 : decode cL_set 329 = .ok (.aload 5, 2) := by decide +kernel
theorem dL_set_331 : decode cL_set 331 = .ok (.iload 9, 2) := by decide +kernel
theorem dL_set_333 : decode cL_set 333 = .ok (.iconst 3, 1) := by decide +kernel
theorem dL_set_334 : decode cL_set 334 = .ok (.iadd, 1) := by decide +kernel
theorem dL_set_335 : decode cL_set 335 = .ok (.aload 5, 2) := by decide +kernel
theorem dL_set_337 : decode cL_set 337 = .ok (.iload 9, 2) := by decide +kernel
theorem dL_set_339 : decode cL_set 339 = .ok (.iaload, 1) := by decide +kernel
theorem dL_set_340 : decode cL_set 340 = .ok (.iastore, 1) := by decide +kernel
theorem dL_set_341 : decode cL_set 341 = .ok (.aload_n 0, 1) := by decide +kernel
theorem dL_set_342 : decode cL_set 342 = .ok (.iload 7, 2) := by decide +kernel
theorem dL_set_344 : decode cL_set 344 = .ok (.iload 8, 2) := by decide +kernel
theorem dL_set_346 : decode cL_set 346 = .ok (.aload 5, 2) := by decide +kernel
theorem dL_set_348 : decode cL_set 348 = .ok (.iload 9, 2) := by decide +kernel
theorem dL_set_350 : decode cL_set 350 = .ok (.iload 8, 2) := by decide +kernel
theorem dL_set_352 : decode cL_set 352 = .ok (.iadd, 1) := by decide +kernel
theorem dL_set_353 : decode cL_set 353 = .ok (.iaload, 1) := by decide +kernel
theorem dL_set_354 : decode cL_set 354 = .ok (.invokevirtual 45, 3) := by decide +kernel
theorem dL_set_357 : decode cL_set 357 = .ok (.iload 10, 2) := by decide +kernel
theorem dL_set_359 : decode cL_set 359 = .ok (.if_icmp .ne 7, 3) := by decide +kernel
theorem dL_set_362 : decode cL_set 362 = .ok (.iconst 1, 1) := by decide +kernel
theorem dL_set_363 : decode cL_set 363 = .ok (.goto 4, 3) := by decide +kernel
theorem dL_set_366 : decode cL_set 366 = .ok (.iconst 0, 1) := by decide +kernel
theorem dL_set_367 : decode cL_set 367 = .ok (.ireturn, 1) := by decide +kernel
theorem dL_buy_0 : decode cL_buy 0 = .ok (.iload_n 1, 1) := by decide +kernel
theorem dL_buy_1 : decode cL_buy 1 = .ok (.aload_n 3, 1) := by decide +kernel
theorem dL_buy_2 : decode cL_buy 2 = .ok (.iconst 0, 1) := by decide +kernel
theorem dL_buy_3 : decode cL_buy 3 = .ok (.iaload, 1) := by decide +kernel
theorem dL_buy_4 : decode cL_buy 4 = .ok (.invokestatic 29, 3) := by decide +kernel
theorem dL_buy_7 : decode cL_buy 7 = .ok (.istore 6, 2) := by decide +kernel
theorem dL_buy_9 : decode cL_buy 9 = .ok (.iconst 1, 1) := by decide +kernel
theorem dL_buy_10 : decode cL_buy 10 = .ok (.iload_n 2, 1) := by decide +kernel
theorem dL_buy_11 : decode cL_buy 11 = .ok (.iload_n 1, 1) := by decide +kernel
theorem dL_buy_12 : decode cL_buy 12 = .ok (.iconst 4, 1) := by decide +kernel
theorem dL_buy_13 : decode cL_buy 13 = .ok (.ishr, 1) := by decide +kernel
theorem dL_buy_14 : decode cL_buy 14 = .ok (.iconst 3, 1) := by decide +kernel
theorem dL_buy_15 : decode cL_buy 15 = .ok (.invokestatic 29, 3) := by decide +kernel
theorem dL_buy_18 : decode cL_buy 18 = .ok (.ifCond .ne 9, 3) := by decide +kernel
theorem dL_buy_21 : decode cL_buy 21 = .ok (.sipush 500, 3) := by decide +kernel
theorem dL_buy_24 : decode cL_buy 24 = .ok (.goto 5, 3) := by decide +kernel
theorem dL_buy_27 : decode cL_buy 27 = .ok (.bipush 80, 2) := by decide +kernel
theorem dL_buy_29 : decode cL_buy 29 = .ok (.invokestatic 29, 3) := by decide +kernel
theorem dL_buy_32 : decode cL_buy 32 = .ok (.iadd, 1) := by decide +kernel
theorem dL_buy_33 : decode cL_buy 33 = .ok (.istore 7, 2) := by decide +kernel
theorem dL_buy_35 : decode cL_buy 35 = .ok (.iload 6, 2) := by decide +kernel
theorem dL_buy_37 : decode cL_buy 37 = .ok (.iload 7, 2) := by decide +kernel
theorem dL_buy_39 : decode cL_buy 39 = .ok (.aload_n 3, 1) := by decide +kernel
theorem dL_buy_40 : decode cL_buy 40 = .ok (.aload 4, 2) := by decide +kernel
theorem dL_buy_42 : decode cL_buy 42 = .ok (.aload 5, 2) := by decide +kernel
theorem dL_buy_44 : decode cL_buy 44 = .ok (.invokestatic 48, 3) := by decide +kernel
theorem dL_buy_47 : decode cL_buy 47 = .ok (.aload_n 0, 1) := by decide +kernel
theorem dL_buy_48 : decode cL_buy 48 = .ok (.iload 6, 2) := by decide +kernel
theorem dL_buy_50 : decode cL_buy 50 = .ok (.iload 7, 2) := by decide +kernel
theorem dL_buy_52 : decode cL_buy 52 = .ok (.invokevirtual 52, 3) := by decide +kernel
theorem dL_buy_55 : decode cL_buy 55 = .ok (.aload 4, 2) := by decide +kernel
theorem dL_buy_57 : decode cL_buy 57 = .ok (.bipush 6, 2) := by decide +kernel
theorem dL_buy_59 : decode cL_buy 59 = .ok (.iload 6, 2) := by decide +kernel
theorem dL_buy_61 : decode cL_buy 61 = .ok (.imul, 1) := by decide +kernel
theorem dL_buy_62 : decode cL_buy 62 = .ok (.iconst 4, 1) := by decide +kernel
theorem dL_buy_63 : decode cL_buy 63 = .ok (.iadd, 1) := by decide +kernel
theorem dL_buy_64 : decode cL_buy 64 = .ok (.iaload, 1) := by decide +kernel
theorem dL_buy_65 : decode cL_buy 65 = .ok (.if_icmp .ne 7, 3) := by decide +kernel
theorem dL_buy_68 : decode cL_buy 68 = .ok (.iconst 1, 1) := by decide +kernel
theorem dL_buy_69 : decode cL_buy 69 = .ok (.goto 4, 3) := by decide +kernel
theorem dL_buy_72 : decode cL_buy 72 = .ok (.iconst 0, 1) := by decide +kernel
theorem dL_buy_73 : decode cL_buy 73 = .ok (.ireturn, 1) := by decide +kernel
theorem dL_lend_0 : decode cL_lend 0 = .ok (.iload_n 1, 1) := by decide +kernel
theorem dL_lend_1 : decode cL_lend 1 = .ok (.aload_n 3, 1) := by decide +kernel
theorem dL_lend_2 : decode cL_lend 2 = .ok (.iconst 0, 1) := by decide +kernel
theorem dL_lend_3 : decode cL_lend 3 = .ok (.iaload, 1) := by decide +kernel
theorem dL_lend_4 : decode cL_lend 4 = .ok (.invokestatic 29, 3) := by decide +kernel
theorem dL_lend_7 : decode cL_lend 7 = .ok (.istore 6, 2) := by decide +kernel
theorem dL_lend_9 : decode cL_lend 9 = .ok (.iload_n 1, 1) := by decide +kernel
theorem dL_lend_10 : decode cL_lend 10 = .ok (.iconst 4, 1) := by decide +kernel
theorem dL_lend_11 : decode cL_lend 11 = .ok (.ishr, 1) := by decide +kernel
theorem dL_lend_12 : decode cL_lend 12 = .ok (.aload_n 3, 1) := by decide +kernel
theorem dL_lend_13 : decode cL_lend 13 = .ok (.iconst 0, 1) := by decide +kernel
theorem dL_lend_14 : decode cL_lend 14 = .ok (.iaload, 1) := by decide +kernel
theorem dL_lend_15 : decode cL_lend 15 = .ok (.invokestatic 29, 3) := by decide +kernel
theorem dL_lend_18 : decode cL_lend 18 = .ok (.istore 7, 2) := by decide +kernel
theorem dL_lend_20 : decode cL_lend 20 = .ok (.iconst 1, 1) := by decide +kernel
theorem dL_lend_21 : decode cL_lend 21 = .ok (.iload_n 2, 1) := by decide +kernel
theorem dL_lend_22 : decode cL_lend 22 = .ok (.bipush 40, 2) := by decide +kernel
theorem dL_lend_24 : decode cL_lend 24 = .ok (.invokestatic 29, 3) := by decide +kernel
theorem dL_lend_27 : decode cL_lend 27 = .ok (.iadd, 1) := by decide +kernel
theorem dL_lend_28 : decode cL_lend 28 = .ok (.istore 8, 2) := by decide +kernel
theorem dL_lend_30 : decode cL_lend 30 = .ok (.iload 6, 2) := by decide +kernel
theorem dL_lend_32 : decode cL_lend 32 = .ok (.iload 7, 2) := by decide +kernel
theorem dL_lend_34 : decode cL_lend 34 = .ok (.if_icmp .ne 24, 3) := by decide +kernel
theorem dL_lend_37 : decode cL_lend 37 = .ok (.aload_n 0, 1) := by decide +kernel
theorem dL_lend_38 : decode cL_lend 38 = .ok (.iload 6, 2) := by decide +kernel
theorem dL_lend_40 : decode cL_lend 40 = .ok (.iload 7, 2) := by decide +kernel
theorem dL_lend_42 : decode cL_lend 42 = .ok (.iload 8, 2) := by decide +kernel
theorem dL_lend_44 : decode cL_lend 44 = .ok (.invokevirtual 55, 3) := by decide +kernel
theorem dL_lend_47 : decode cL_lend 47 = .ok (.ldc 58, 2) := by decide +kernel
theorem dL_lend_49 : decode cL_lend 49 = .ok (.if_icmp .ne 7, 3) := by decide +kernel
theorem dL_lend_52 : decode cL_lend 52 = .ok (.iconst 1, 1) := by decide +kernel
theorem dL_lend_53 : decode cL_lend 53 = .ok (.goto 4, 3) := by decide +kernel
theorem dL_lend_56 : decode cL_lend 56 = .ok (.iconst 0, 1) := by decide +kernel
theorem dL_lend_57 : decode cL_lend 57 = .ok (.ireturn, 1) := by decide +kernel
theorem dL_lend_58 : decode cL_lend 58 = .ok (.aload 4, 2) := by decide +kernel
theorem dL_lend_60 : decode cL_lend 60 = .ok (.bipush 6, 2) := by decide +kernel
theorem dL_lend_62 : decode cL_lend 62 = .ok (.iload 6, 2) := by decide +kernel
theorem dL_lend_64 : decode cL_lend 64 = .ok (.imul, 1) := by decide +kernel
theorem dL_lend_65 : decode cL_lend 65 = .ok (.iconst 4, 1) := by decide +kernel
theorem dL_lend_66 : decode cL_lend 66 = .ok (.iadd, 1) := by decide +kernel
theorem dL_lend_67 : decode cL_lend 67 = .ok (.iaload, 1) := by decide +kernel
theorem dL_lend_68 : decode cL_lend 68 = .ok (.iload 8, 2) := by decide +kernel
theorem dL_lend_70 : decode cL_lend 70 = .ok (.if_icmp .ge 24, 3) := by decide +kernel
theorem dL_lend_73 : decode cL_lend 73 = .ok (.aload_n 0, 1) := by decide +kernel
theorem dL_lend_74 : decode cL_lend 74 = .ok (.iload 6, 2) := by decide +kernel
theorem dL_lend_76 : decode cL_lend 76 = .ok (.iload 7, 2) := by decide +kernel
theorem dL_lend_78 : decode cL_lend 78 = .ok (.iload 8, 2) := by decide +kernel
theorem dL_lend_80 : decode cL_lend 80 = .ok (.invokevirtual 55, 3) := by decide +kernel
theorem dL_lend_83 : decode cL_lend 83 = .ok (.ldc 59, 2) := by decide +kernel
theorem dL_lend_85 : decode cL_lend 85 = .ok (.if_icmp .ne 7, 3) := by decide +kernel
theorem dL_lend_88 : decode cL_lend 88 = .ok (.iconst 1, 1) := by decide +kernel
theorem dL_lend_89 : decode cL_lend 89 = .ok (.goto 4, 3) := by decide +kernel
theorem dL_lend_92 : decode cL_lend 92 = .ok (.iconst 0, 1) := by decide +kernel
theorem dL_lend_93 : decode cL_lend 93 = .ok (.ireturn, 1) := by decide +kernel
theorem dL_lend_94 : decode cL_lend 94 = .ok (.aload_n 3, 1) := by decide +kernel
theorem dL_lend_95 : decode cL_lend 95 = .ok (.iconst 1, 1) := by decide +kernel
theorem dL_lend_96 : decode cL_lend 96 = .ok (.iaload, 1) := by decide +kernel
theorem dL_lend_97 : decode cL_lend 97 = .ok (.bipush 10, 2) := by decide +kernel
theorem dL_lend_99 : decode cL_lend 99 = .ok (.if_icmp .ne 5, 3) := by decide +kernel
theorem dL_lend_102 : decode cL_lend 102 = .ok (.iconst 1, 1) := by decide +kernel
theorem dL_lend_103 : decode cL_lend 103 = .ok (.ireturn, 1) := by decide +kernel
theorem dL_lend_104 : decode cL_lend 104 = .ok (.iconst 3, 1) := by decide +kernel
theorem dL_lend_105 : decode cL_lend 105 = .ok (.aload_n 3, 1) := by decide +kernel
theorem dL_lend_106 : decode cL_lend 106 = .ok (.iconst 1, 1) := by decide +kernel
theorem dL_lend_107 : decode cL_lend 107 = .ok (.iaload, 1) := by decide +kernel
theorem dL_lend_108 : decode cL_lend 108 = .ok (.imul, 1) := by decide +kernel
theorem dL_lend_109 : decode cL_lend 109 = .ok (.istore 9, 2) := by decide +kernel
theorem dL_lend_111 : decode cL_lend 111 = .ok (.aload 5, 2) := by decide +kernel
theorem dL_lend_113 : decode cL_lend 113 = .ok (.iload 9, 2) := by decide +kernel
theorem dL_lend_115 : decode cL_lend 115 = .ok (.iload 6, 2) := by decide +kernel
theorem dL_lend_117 : decode cL_lend 117 = .ok (.iastore, 1) := by decide +kernel
theorem dL_lend_118 : decode cL_lend 118 = .ok (.aload 5, 2) := by decide +kernel
theorem dL_lend_120 : decode cL_lend 120 = .ok (.iload 9, 2) := by decide +kernel
theorem dL_lend_122 : decode cL_lend 122 = .ok (.iconst 1, 1) := by decide +kernel
theorem dL_lend_123 : decode cL_lend 123 = .ok (.iadd, 1) := by decide +kernel
theorem dL_lend_124 : decode cL_lend 124 = .ok (.iload 7, 2) := by decide +kernel
theorem dL_lend_126 : decode cL_lend 126 = .ok (.iastore, 1) := by decide +kernel
theorem dL_lend_127 : decode cL_lend 127 = .ok (.aload 5, 2) := by decide +kernel
theorem dL_lend_129 : decode cL_lend 129 = .ok (.iload 9, 2) := by decide +kernel
theorem dL_lend_131 : decode cL_lend 131 = .ok (.iconst 2, 1) := by decide +kernel
theorem dL_lend_132 : decode cL_lend 132 = .ok (.iadd, 1) := by decide +kernel
theorem dL_lend_133 : decode cL_lend 133 = .ok (.iload 8, 2) := by decide +kernel
theorem dL_lend_135 : decode cL_lend 135 = .ok (.iastore, 1) := by decide +kernel
theorem dL_lend_136 : decode cL_lend 136 = .ok (.aload 4, 2) := by decide +kernel
theorem dL_lend_138 : decode cL_lend 138 = .ok (.bipush 6, 2) := by decide +kernel
theorem dL_lend_140 : decode cL_lend 140 = .ok (.iload 6, 2) := by decide +kernel
theorem dL_lend_142 : decode cL_lend 142 = .ok (.imul, 1) := by decide +kernel
theorem dL_lend_143 : decode cL_lend 143 = .ok (.iconst 4, 1) := by decide +kernel
theorem dL_lend_144 : decode cL_lend 144 = .ok (.iadd, 1) := by decide +kernel
theorem dL_lend_145 : decode cL_lend 145 = .ok (.dup2, 1) := by decide +kernel
theorem dL_lend_146 : decode cL_lend 146 = .ok (.iaload, 1) := by decide +kernel
theorem dL_lend_147 : decode cL_lend 147 = .ok (.iload 8, 2) := by decide +kernel
theorem dL_lend_149 : decode cL_lend 149 = .ok (.isub, 1) := by decide +kernel
theorem dL_lend_150 : decode cL_lend 150 = .ok (.iastore, 1) := by decide +kernel
theorem dL_lend_151 : decode cL_lend 151 = .ok (.aload 4, 2) := by decide +kernel
theorem dL_lend_153 : decode cL_lend 153 = .ok (.bipush 6, 2) := by decide +kernel
theorem dL_lend_155 : decode cL_lend 155 = .ok (.iload 7, 2) := by decide +kernel
theorem dL_lend_157 : decode cL_lend 157 = .ok (.imul, 1) := by decide +kernel
theorem dL_lend_158 : decode cL_lend 158 = .ok (.iconst 4, 1) := by decide +kernel
theorem dL_lend_159 : decode cL_lend 159 = .ok (.iadd, 1) := by decide +kernel
theorem dL_lend_160 : decode cL_lend 160 = .ok (.dup2, 1) := by decide +kernel
theorem dL_lend_161 : decode cL_lend 161 = .ok (.iaload, 1) := by decide +kernel
theorem dL_lend_162 : decode cL_lend 162 = .ok (.iload 8, 2) := by decide +kernel
theorem dL_lend_164 : decode cL_lend 164 = .ok (.iadd, 1) := by decide +kernel
theorem dL_lend_165 : decode cL_lend 165 = .ok (.iastore, 1) := by decide +kernel
theorem dL_lend_166 : decode cL_lend 166 = .ok (.aload_n 3, 1) := by decide +kernel
theorem dL_lend_167 : decode cL_lend 167 = .ok (.iconst 1, 1) := by decide +kernel
theorem dL_lend_168 : decode cL_lend 168 = .ok (.dup2, 1) := by decide +kernel
theorem dL_lend_169 : decode cL_lend 169 = .ok (.iaload, 1) := by decide +kernel
theorem dL_lend_170 : decode cL_lend 170 = .ok (.iconst 1, 1) := by decide +kernel
theorem dL_lend_171 : decode cL_lend 171 = .ok (.iadd, 1) := by decide +kernel
theorem dL_lend_172 : decode cL_lend 172 = .ok (.iastore, 1) := by decide +kernel
theorem dL_lend_173 : decode cL_lend 173 = .ok (.aload_n 0, 1) := by decide +kernel
theorem dL_lend_174 : decode cL_lend 174 = .ok (.iload 6, 2) := by decide +kernel
theorem dL_lend_176 : decode cL_lend 176 = .ok (.iload 7, 2) := by decide +kernel
theorem dL_lend_178 : decode cL_lend 178 = .ok (.iload 8, 2) := by decide +kernel
theorem dL_lend_180 : decode cL_lend 180 = .ok (.invokevirtual 55, 3) := by decide +kernel
theorem dL_lend_183 : decode cL_lend 183 = .ok (.aload_n 3, 1) := by decide +kernel
theorem dL_lend_184 : decode cL_lend 184 = .ok (.iconst 1, 1) := by decide +kernel
theorem dL_lend_185 : decode cL_lend 185 = .ok (.iaload, 1) := by decide +kernel
theorem dL_lend_186 : decode cL_lend 186 = .ok (.if_icmp .ne 7, 3) := by decide +kernel
theorem dL_lend_189 : decode cL_lend 189 = .ok (.iconst 1, 1) := by decide +kernel
theorem dL_lend_190 : decode cL_lend 190 = .ok (.goto 4, 3) := by decide +kernel
theorem dL_lend_193 : decode cL_lend 193 = .ok (.iconst 0, 1) := by decide +kernel
theorem dL_lend_194 : decode cL_lend 194 = .ok (.ireturn, 1) := by decide +kernel
theorem dL_run_0 : decode cL_run 0 = .ok (.iconst 1, 1) := by decide +kernel
theorem dL_run_1 : decode cL_run 1 = .ok (.iload_n 1, 1) := by decide +kernel
theorem dL_run_2 : decode cL_run 2 = .ok (.bipush 8, 2) := by decide +kernel
theorem dL_run_4 : decode cL_run 4 = .ok (.invokestatic 29, 3) := by decide +kernel
theorem dL_run_7 : decode cL_run 7 = .ok (.iadd, 1) := by decide +kernel
theorem dL_run_8 : decode cL_run 8 = .ok (.istore 7, 2) := by decide +kernel
theorem dL_run_10 : decode cL_run 10 = .ok (.aload_n 2, 1) := by decide +kernel
theorem dL_run_11 : decode cL_run 11 = .ok (.bipush 9, 2) := by decide +kernel
theorem dL_run_13 : decode cL_run 13 = .ok (.iaload, 1) := by decide +kernel
theorem dL_run_14 : decode cL_run 14 = .ok (.istore 8, 2) := by decide +kernel
theorem dL_run_16 : decode cL_run 16 = .ok (.iconst 0, 1) := by decide +kernel
theorem dL_run_17 : decode cL_run 17 = .ok (.istore 9, 2) := by decide +kernel
theorem dL_run_19 : decode cL_run 19 = .ok (.iload 9, 2) := by decide +kernel
theorem dL_run_21 : decode cL_run 21 = .ok (.iload 7, 2) := by decide +kernel
theorem dL_run_23 : decode cL_run 23 = .ok (.if_icmp .ge 20, 3) := by decide +kernel
theorem dL_run_26 : decode cL_run 26 = .ok (.aload_n 2, 1) := by decide +kernel
theorem dL_run_27 : decode cL_run 27 = .ok (.aload_n 3, 1) := by decide +kernel
theorem dL_run_28 : decode cL_run 28 = .ok (.aload 4, 2) := by decide +kernel
theorem dL_run_30 : decode cL_run 30 = .ok (.aload 5, 2) := by decide +kernel
theorem dL_run_32 : decode cL_run 32 = .ok (.aload 6, 2) := by decide +kernel
theorem dL_run_34 : decode cL_run 34 = .ok (.invokestatic 60, 3) := by decide +kernel
theorem dL_run_37 : decode cL_run 37 = .ok (.iinc 9 1, 3) := by decide +kernel
theorem dL_run_40 : decode cL_run 40 = .ok (.goto (-21), 3) := by decide +kernel
theorem dL_run_43 : decode cL_run 43 = .ok (.aload_n 0, 1) := by decide +kernel
theorem dL_run_44 : decode cL_run 44 = .ok (.iload 7, 2) := by decide +kernel
theorem dL_run_46 : decode cL_run 46 = .ok (.invokevirtual 64, 3) := by decide +kernel
theorem dL_run_49 : decode cL_run 49 = .ok (.aload_n 2, 1) := by decide +kernel
theorem dL_run_50 : decode cL_run 50 = .ok (.bipush 9, 2) := by decide +kernel
theorem dL_run_52 : decode cL_run 52 = .ok (.iaload, 1) := by decide +kernel
theorem dL_run_53 : decode cL_run 53 = .ok (.iload 8, 2) := by decide +kernel
theorem dL_run_55 : decode cL_run 55 = .ok (.isub, 1) := by decide +kernel
theorem dL_run_56 : decode cL_run 56 = .ok (.if_icmp .ne 7, 3) := by decide +kernel
theorem dL_run_59 : decode cL_run 59 = .ok (.iconst 1, 1) := by decide +kernel
theorem dL_run_60 : decode cL_run 60 = .ok (.goto 4, 3) := by decide +kernel
theorem dL_run_63 : decode cL_run 63 = .ok (.iconst 0, 1) := by decide +kernel
theorem dL_run_64 : decode cL_run 64 = .ok (.ireturn, 1) := by decide +kernel
theorem dL_told_0 : decode cL_told 0 = .ok (.iconst 0, 1) := by decide +kernel
theorem dL_told_1 : decode cL_told 1 = .ok (.istore 6, 2) := by decide +kernel
theorem dL_told_3 : decode cL_told 3 = .ok (.iconst 0, 1) := by decide +kernel
theorem dL_told_4 : decode cL_told 4 = .ok (.istore 7, 2) := by decide +kernel
theorem dL_told_6 : decode cL_told 6 = .ok (.iconst 0, 1) := by decide +kernel
theorem dL_told_7 : decode cL_told 7 = .ok (.istore 8, 2) := by decide +kernel
theorem dL_told_9 : decode cL_told 9 = .ok (.iconst 0, 1) := by decide +kernel
theorem dL_told_10 : decode cL_told 10 = .ok (.istore 9, 2) := by decide +kernel
theorem dL_told_12 : decode cL_told 12 = .ok (.iload 9, 2) := by decide +kernel
theorem dL_told_14 : decode cL_told 14 = .ok (.aload_n 1, 1) := by decide +kernel
theorem dL_told_15 : decode cL_told 15 = .ok (.iconst 0, 1) := by decide +kernel
theorem dL_told_16 : decode cL_told 16 = .ok (.iaload, 1) := by decide +kernel
theorem dL_told_17 : decode cL_told 17 = .ok (.if_icmp .ge 192, 3) := by decide +kernel
theorem dL_told_20 : decode cL_told 20 = .ok (.bipush 6, 2) := by decide +kernel
theorem dL_told_22 : decode cL_told 22 = .ok (.iload 9, 2) := by decide +kernel
theorem dL_told_24 : decode cL_told 24 = .ok (.imul, 1) := by decide +kernel
theorem dL_told_25 : decode cL_told 25 = .ok (.istore 10, 2) := by decide +kernel
theorem dL_told_27 : decode cL_told 27 = .ok (.iconst 0, 1) := by decide +kernel
theorem dL_told_28 : decode cL_told 28 = .ok (.istore 11, 2) := by decide +kernel
theorem dL_told_30 : decode cL_told 30 = .ok (.iload 11, 2) := by decide +kernel
theorem dL_told_32 : decode cL_told 32 = .ok (.iconst 5, 1) := by decide +kernel
theorem dL_told_33 : decode cL_told 33 = .ok (.if_icmp .ge 29, 3) := by decide +kernel
theorem dL_told_36 : decode cL_told 36 = .ok (.aload_n 0, 1) := by decide +kernel
theorem dL_told_37 : decode cL_told 37 = .ok (.iload 9, 2) := by decide +kernel
theorem dL_told_39 : decode cL_told 39 = .ok (.iload 11, 2) := by decide +kernel
theorem dL_told_41 : decode cL_told 41 = .ok (.invokevirtual 68, 3) := by decide +kernel
theorem dL_told_44 : decode cL_told 44 = .ok (.aload_n 2, 1) := by decide +kernel
theorem dL_told_45 : decode cL_told 45 = .ok (.iload 10, 2) := by decide +kernel
theorem dL_told_47 : decode cL_told 47 = .ok (.iload 11, 2) := by decide +kernel
theorem dL_told_49 : decode cL_told 49 = .ok (.iadd, 1) := by decide +kernel
theorem dL_told_50 : decode cL_told 50 = .ok (.iaload, 1) := by decide +kernel
theorem dL_told_51 : decode cL_told 51 = .ok (.if_icmp .eq 5, 3) := by decide +kernel
theorem dL_told_54 : decode cL_told 54 = .ok (.iconst 0, 1) := by decide +kernel
theorem dL_told_55 : decode cL_told 55 = .ok (.ireturn, 1) := by decide +kernel
theorem dL_told_56 : decode cL_told 56 = .ok (.iinc 11 1, 3) := by decide +kernel
theorem dL_told_59 : decode cL_told 59 = .ok (.goto (-29), 3) := by decide +kernel
theorem dL_told_62 : decode cL_told 62 = .ok (.aload_n 0, 1) := by decide +kernel
theorem dL_told_63 : decode cL_told 63 = .ok (.iload 9, 2) := by decide +kernel
theorem dL_told_65 : decode cL_told 65 = .ok (.iconst 5, 1) := by decide +kernel
theorem dL_told_66 : decode cL_told 66 = .ok (.invokevirtual 68, 3) := by decide +kernel
theorem dL_told_69 : decode cL_told 69 = .ok (.iload 9, 2) := by decide +kernel
theorem dL_told_71 : decode cL_told 71 = .ok (.aload_n 1, 1) := by decide +kernel
theorem dL_told_72 : decode cL_told 72 = .ok (.aload_n 2, 1) := by decide +kernel
theorem dL_told_73 : decode cL_told 73 = .ok (.invokestatic 8, 3) := by decide +kernel
theorem dL_told_76 : decode cL_told 76 = .ok (.if_icmp .ne 93, 3) := by decide +kernel
theorem dL_told_79 : decode cL_told 79 = .ok (.aload_n 0, 1) := by decide +kernel
theorem dL_told_80 : decode cL_told 80 = .ok (.iload 9, 2) := by decide +kernel
theorem dL_told_82 : decode cL_told 82 = .ok (.bipush 6, 2) := by decide +kernel
theorem dL_told_84 : decode cL_told 84 = .ok (.invokevirtual 68, 3) := by decide +kernel
theorem dL_told_87 : decode cL_told 87 = .ok (.aload_n 3, 1) := by decide +kernel
theorem dL_told_88 : decode cL_told 88 = .ok (.iload 9, 2) := by decide +kernel
theorem dL_told_90 : decode cL_told 90 = .ok (.iaload, 1) := by decide +kernel
theorem dL_told_91 : decode cL_told 91 = .ok (.if_icmp .ne 78, 3) := by decide +kernel
theorem dL_told_94 : decode cL_told 94 = .ok (.aload_n 0, 1) := by decide +kernel
theorem dL_told_95 : decode cL_told 95 = .ok (.iload 9, 2) := by decide +kernel
theorem dL_told_97 : decode cL_told 97 = .ok (.bipush 7, 2) := by decide +kernel
theorem dL_told_99 : decode cL_told 99 = .ok (.invokevirtual 68, 3) := by decide +kernel
theorem dL_told_102 : decode cL_told 102 = .ok (.aload_n 3, 1) := by decide +kernel
theorem dL_told_103 : decode cL_told 103 = .ok (.bipush 8, 2) := by decide +kernel
theorem dL_told_105 : decode cL_told 105 = .ok (.iload 9, 2) := by decide +kernel
theorem dL_told_107 : decode cL_told 107 = .ok (.iadd, 1) := by decide +kernel
theorem dL_told_108 : decode cL_told 108 = .ok (.iaload, 1) := by decide +kernel
theorem dL_told_109 : decode cL_told 109 = .ok (.if_icmp .ne 60, 3) := by decide +kernel
theorem dL_told_112 : decode cL_told 112 = .ok (.aload_n 0, 1) := by decide +kernel
theorem dL_told_113 : decode cL_told 113 = .ok (.iload 9, 2) := by decide +kernel
theorem dL_told_115 : decode cL_told 115 = .ok (.bipush 8, 2) := by decide +kernel
theorem dL_told_117 : decode cL_told 117 = .ok (.invokevirtual 68, 3) := by decide +kernel
theorem dL_told_120 : decode cL_told 120 = .ok (.aload_n 2, 1) := by decide +kernel
theorem dL_told_121 : decode cL_told 121 = .ok (.iload 10, 2) := by decide +kernel
theorem dL_told_123 : decode cL_told 123 = .ok (.iconst 5, 1) := by decide +kernel
theorem dL_told_124 : decode cL_told 124 = .ok (.iadd, 1) := by decide +kernel
theorem dL_told_125 : decode cL_told 125 = .ok (.iaload, 1) := by decide +kernel
theorem dL_told_126 : decode cL_told 126 = .ok (.if_icmp .ne 43, 3) := by decide +kernel
theorem dL_told_129 : decode cL_told 129 = .ok (.aload_n 0, 1) := by decide +kernel
theorem dL_told_130 : decode cL_told 130 = .ok (.iload 9, 2) := by decide +kernel
theorem dL_told_132 : decode cL_told 132 = .ok (.bipush 9, 2) := by decide +kernel
theorem dL_told_134 : decode cL_told 134 = .ok (.invokevirtual 68, 3) := by decide +kernel
theorem dL_told_137 : decode cL_told 137 = .ok (.iload 9, 2) := by decide +kernel
theorem dL_told_139 : decode cL_told 139 = .ok (.iconst 1, 1) := by decide +kernel
theorem dL_told_140 : decode cL_told 140 = .ok (.aload_n 1, 1) := by decide +kernel
theorem dL_told_141 : decode cL_told 141 = .ok (.aload 4, 2) := by decide +kernel
theorem dL_told_143 : decode cL_told 143 = .ok (.invokestatic 22, 3) := by decide +kernel
theorem dL_told_146 : decode cL_told 146 = .ok (.if_icmp .ne 23, 3) := by decide +kernel
theorem dL_told_149 : decode cL_told 149 = .ok (.aload_n 0, 1) := by decide +kernel
theorem dL_told_150 : decode cL_told 150 = .ok (.iload 9, 2) := by decide +kernel
theorem dL_told_152 : decode cL_told 152 = .ok (.bipush 10, 2) := by decide +kernel
theorem dL_told_154 : decode cL_told 154 = .ok (.invokevirtual 68, 3) := by decide +kernel
theorem dL_told_157 : decode cL_told 157 = .ok (.iload 9, 2) := by decide +kernel
theorem dL_told_159 : decode cL_told 159 = .ok (.iconst 0, 1) := by decide +kernel
theorem dL_told_160 : decode cL_told 160 = .ok (.aload_n 1, 1) := by decide +kernel
theorem dL_told_161 : decode cL_told 161 = .ok (.aload 4, 2) := by decide +kernel
theorem dL_told_163 : decode cL_told 163 = .ok (.invokestatic 22, 3) := by decide +kernel
theorem dL_told_166 : decode cL_told 166 = .ok (.if_icmp .eq 5, 3) := by decide +kernel
theorem dL_told_169 : decode cL_told 169 = .ok (.iconst 0, 1) := by decide +kernel
theorem dL_told_170 : decode cL_told 170 = .ok (.ireturn, 1) := by decide +kernel
theorem dL_told_171 : decode cL_told 171 = .ok (.iload 6, 2) := by decide +kernel
theorem dL_told_173 : decode cL_told 173 = .ok (.aload_n 3, 1) := by decide +kernel
theorem dL_told_174 : decode cL_told 174 = .ok (.iload 9, 2) := by decide +kernel
theorem dL_told_176 : decode cL_told 176 = .ok (.iaload, 1) := by decide +kernel
theorem dL_told_177 : decode cL_told 177 = .ok (.iadd, 1) := by decide +kernel
theorem dL_told_178 : decode cL_told 178 = .ok (.istore 6, 2) := by decide +kernel
theorem dL_told_180 : decode cL_told 180 = .ok (.iload 7, 2) := by decide +kernel
theorem dL_told_182 : decode cL_told 182 = .ok (.aload_n 2, 1) := by decide +kernel
theorem dL_told_183 : decode cL_told 183 = .ok (.iload 10, 2) := by decide +kernel
theorem dL_told_185 : decode cL_told 185 = .ok (.iconst 1, 1) := by decide +kernel
theorem dL_told_186 : decode cL_told 186 = .ok (.iadd, 1) := by decide +kernel
theorem dL_told_187 : decode cL_told 187 = .ok (.iaload, 1) := by decide +kernel
theorem dL_told_188 : decode cL_told 188 = .ok (.iadd, 1) := by decide +kernel
theorem dL_told_189 : decode cL_told 189 = .ok (.istore 7, 2) := by decide +kernel
theorem dL_told_191 : decode cL_told 191 = .ok (.aload_n 2, 1) := by decide +kernel
theorem dL_told_192 : decode cL_told 192 = .ok (.iload 10, 2) := by decide +kernel
theorem dL_told_194 : decode cL_told 194 = .ok (.iconst 4, 1) := by decide +kernel
theorem dL_told_195 : decode cL_told 195 = .ok (.iadd, 1) := by decide +kernel
theorem dL_told_196 : decode cL_told 196 = .ok (.iaload, 1) := by decide +kernel
theorem dL_told_197 : decode cL_told 197 = .ok (.ifCond .ge 6, 3) := by decide +kernel
theorem dL_told_200 : decode cL_told 200 = .ok (.iinc 8 1, 3) := by decide +kernel
theorem dL_told_203 : decode cL_told 203 = .ok (.iinc 9 1, 3) := by decide +kernel
theorem dL_told_206 : decode cL_told 206 = .ok (.goto (-194), 3) := by decide +kernel
theorem dL_told_209 : decode cL_told 209 = .ok (.iconst 0, 1) := by decide +kernel
theorem dL_told_210 : decode cL_told 210 = .ok (.istore 9, 2) := by decide +kernel
theorem dL_told_212 : decode cL_told 212 = .ok (.iload 9, 2) := by decide +kernel
theorem dL_told_214 : decode cL_told 214 = .ok (.aload_n 1, 1) := by decide +kernel
theorem dL_told_215 : decode cL_told 215 = .ok (.iconst 1, 1) := by decide +kernel
theorem dL_told_216 : decode cL_told 216 = .ok (.iaload, 1) := by decide +kernel
theorem dL_told_217 : decode cL_told 217 = .ok (.if_icmp .ge 47, 3) := by decide +kernel
theorem dL_told_220 : decode cL_told 220 = .ok (.iconst 0, 1) := by decide +kernel
theorem dL_told_221 : decode cL_told 221 = .ok (.istore 10, 2) := by decide +kernel
theorem dL_told_223 : decode cL_told 223 = .ok (.iload 10, 2) := by decide +kernel
theorem dL_told_225 : decode cL_told 225 = .ok (.iconst 3, 1) := by decide +kernel
theorem dL_told_226 : decode cL_told 226 = .ok (.if_icmp .ge 32, 3) := by decide +kernel
theorem dL_told_229 : decode cL_told 229 = .ok (.aload_n 0, 1) := by decide +kernel
theorem dL_told_230 : decode cL_told 230 = .ok (.iload 9, 2) := by decide +kernel
theorem dL_told_232 : decode cL_told 232 = .ok (.iload 10, 2) := by decide +kernel
theorem dL_told_234 : decode cL_told 234 = .ok (.invokevirtual 71, 3) := by decide +kernel
theorem dL_told_237 : decode cL_told 237 = .ok (.aload 4, 2) := by decide +kernel
theorem dL_told_239 : decode cL_told 239 = .ok (.iconst 3, 1) := by decide +kernel
theorem dL_told_240 : decode cL_told 240 = .ok (.iload 9, 2) := by decide +kernel
theorem dL_told_242 : decode cL_told 242 = .ok (.imul, 1) := by decide +kernel
theorem dL_told_243 : decode cL_told 243 = .ok (.iload 10, 2) := by decide +kernel
theorem dL_told_245 : decode cL_told 245 = .ok (.iadd, 1) := by decide +kernel
theorem dL_told_246 : decode cL_told 246 = .ok (.iaload, 1) := by decide +kernel
theorem dL_told_247 : decode cL_told 247 = .ok (.if_icmp .eq 5, 3) := by decide +kernel
theorem dL_told_250 : decode cL_told 250 = .ok (.iconst 0, 1) := by decide +kernel
theorem dL_told_251 : decode cL_told 251 = .ok (.ireturn, 1) := by decide +kernel
theorem dL_told_252 : decode cL_told 252 = .ok (.iinc 10 1, 3) := by decide +kernel
theorem dL_told_255 : decode cL_told 255 = .ok (.goto (-32), 3) := by decide +kernel
theorem dL_told_258 : decode cL_told 258 = .ok (.iinc 9 1, 3) := by decide +kernel
theorem dL_told_261 : decode cL_told 261 = .ok (.goto (-49), 3) := by decide +kernel
theorem dL_told_264 : decode cL_told 264 = .ok (.iconst 0, 1) := by decide +kernel
theorem dL_told_265 : decode cL_told 265 = .ok (.istore 9, 2) := by decide +kernel
theorem dL_told_267 : decode cL_told 267 = .ok (.iload 9, 2) := by decide +kernel
theorem dL_told_269 : decode cL_told 269 = .ok (.iconst 2, 1) := by decide +kernel
theorem dL_told_270 : decode cL_told 270 = .ok (.if_icmp .ge 66, 3) := by decide +kernel
theorem dL_told_273 : decode cL_told 273 = .ok (.iconst 0, 1) := by decide +kernel
theorem dL_told_274 : decode cL_told 274 = .ok (.istore 10, 2) := by decide +kernel
theorem dL_told_276 : decode cL_told 276 = .ok (.iload 10, 2) := by decide +kernel
theorem dL_told_278 : decode cL_told 278 = .ok (.iconst 4, 1) := by decide +kernel
theorem dL_told_279 : decode cL_told 279 = .ok (.if_icmp .ge 32, 3) := by decide +kernel
theorem dL_told_282 : decode cL_told 282 = .ok (.aload_n 0, 1) := by decide +kernel
theorem dL_told_283 : decode cL_told 283 = .ok (.iload 9, 2) := by decide +kernel
theorem dL_told_285 : decode cL_told 285 = .ok (.iload 10, 2) := by decide +kernel
theorem dL_told_287 : decode cL_told 287 = .ok (.invokevirtual 74, 3) := by decide +kernel
theorem dL_told_290 : decode cL_told 290 = .ok (.aload 5, 2) := by decide +kernel
theorem dL_told_292 : decode cL_told 292 = .ok (.iconst 4, 1) := by decide +kernel
theorem dL_told_293 : decode cL_told 293 = .ok (.iload 9, 2) := by decide +kernel
theorem dL_told_295 : decode cL_told 295 = .ok (.imul, 1) := by decide +kernel
theorem dL_told_296 : decode cL_told 296 = .ok (.iload 10, 2) := by decide +kernel
theorem dL_told_298 : decode cL_told 298 = .ok (.iadd, 1) := by decide +kernel
theorem dL_told_299 : decode cL_told 299 = .ok (.iaload, 1) := by decide +kernel
theorem dL_told_300 : decode cL_told 300 = .ok (.if_icmp .eq 5, 3) := by decide +kernel
theorem dL_told_303 : decode cL_told 303 = .ok (.iconst 0, 1) := by decide +kernel
theorem dL_told_304 : decode cL_told 304 = .ok (.ireturn, 1) := by decide +kernel
theorem dL_told_305 : decode cL_told 305 = .ok (.iinc 10 1, 3) := by decide +kernel
theorem dL_told_308 : decode cL_told 308 = .ok (.goto (-32), 3) := by decide +kernel
theorem dL_told_311 : decode cL_told 311 = .ok (.aload_n 0, 1) := by decide +kernel
theorem dL_told_312 : decode cL_told 312 = .ok (.iload 9, 2) := by decide +kernel
theorem dL_told_314 : decode cL_told 314 = .ok (.iconst 4, 1) := by decide +kernel
theorem dL_told_315 : decode cL_told 315 = .ok (.invokevirtual 74, 3) := by decide +kernel
theorem dL_told_318 : decode cL_told 318 = .ok (.iload 9, 2) := by decide +kernel
theorem dL_told_320 : decode cL_told 320 = .ok (.aload 5, 2) := by decide +kernel
theorem dL_told_322 : decode cL_told 322 = .ok (.invokestatic 14, 3) := by decide +kernel
theorem dL_told_325 : decode cL_told 325 = .ok (.if_icmp .eq 5, 3) := by decide +kernel
theorem dL_told_328 : decode cL_told 328 = .ok (.iconst 0, 1) := by decide +kernel
theorem dL_told_329 : decode cL_told 329 = .ok (.ireturn, 1) := by decide +kernel
theorem dL_told_330 : decode cL_told 330 = .ok (.iinc 9 1, 3) := by decide +kernel
theorem dL_told_333 : decode cL_told 333 = .ok (.goto (-66), 3) := by decide +kernel
theorem dL_told_336 : decode cL_told 336 = .ok (.iconst 0, 1) := by decide +kernel
theorem dL_told_337 : decode cL_told 337 = .ok (.istore 9, 2) := by decide +kernel
theorem dL_told_339 : decode cL_told 339 = .ok (.iload 9, 2) := by decide +kernel
theorem dL_told_341 : decode cL_told 341 = .ok (.iconst 3, 1) := by decide +kernel
theorem dL_told_342 : decode cL_told 342 = .ok (.if_icmp .ge 141, 3) := by decide +kernel
theorem dL_told_345 : decode cL_told 345 = .ok (.iconst 0, 1) := by decide +kernel
theorem dL_told_346 : decode cL_told 346 = .ok (.istore 10, 2) := by decide +kernel
theorem dL_told_348 : decode cL_told 348 = .ok (.iconst 0, 1) := by decide +kernel
theorem dL_told_349 : decode cL_told 349 = .ok (.istore 11, 2) := by decide +kernel
theorem dL_told_351 : decode cL_told 351 = .ok (.iconst 0, 1) := by decide +kernel
theorem dL_told_352 : decode cL_told 352 = .ok (.istore 12, 2) := by decide +kernel
theorem dL_told_354 : decode cL_told 354 = .ok (.iload 12, 2) := by decide +kernel
theorem dL_told_356 : decode cL_told 356 = .ok (.aload_n 1, 1) := by decide +kernel
theorem dL_told_357 : decode cL_told 357 = .ok (.iconst 0, 1) := by decide +kernel
theorem dL_told_358 : decode cL_told 358 = .ok (.iaload, 1) := by decide +kernel
theorem dL_told_359 : decode cL_told 359 = .ok (.if_icmp .ge 38, 3) := by decide +kernel
theorem dL_told_362 : decode cL_told 362 = .ok (.aload_n 2, 1) := by decide +kernel
theorem dL_told_363 : decode cL_told 363 = .ok (.bipush 6, 2) := by decide +kernel
theorem dL_told_365 : decode cL_told 365 = .ok (.iload 12, 2) := by decide +kernel
theorem dL_told_367 : decode cL_told 367 = .ok (.imul, 1) := by decide +kernel
theorem dL_told_368 : decode cL_told 368 = .ok (.iaload, 1) := by decide +kernel
theorem dL_told_369 : decode cL_told 369 = .ok (.iload 9, 2) := by decide +kernel
theorem dL_told_371 : decode cL_told 371 = .ok (.if_icmp .ne 20, 3) := by decide +kernel
theorem dL_told_374 : decode cL_told 374 = .ok (.iinc 10 1, 3) := by decide +kernel
theorem dL_told_377 : decode cL_told 377 = .ok (.iload 11, 2) := by decide +kernel
theorem dL_told_379 : decode cL_told 379 = .ok (.aload_n 2, 1) := by decide +kernel
theorem dL_told_380 : decode cL_told 380 = .ok (.bipush 6, 2) := by decide +kernel
theorem dL_told_382 : decode cL_told 382 = .ok (.iload 12, 2) := by decide +kernel
theorem dL_told_384 : decode cL_told 384 = .ok (.imul, 1) := by decide +kernel
theorem dL_told_385 : decode cL_told 385 = .ok (.iconst 4, 1) := by decide +kernel
theorem dL_told_386 : decode cL_told 386 = .ok (.iadd, 1) := by decide +kernel
theorem dL_told_387 : decode cL_told 387 = .ok (.iaload, 1) := by decide +kernel
theorem dL_told_388 : decode cL_told 388 = .ok (.iadd, 1) := by decide +kernel
theorem dL_told_389 : decode cL_told 389 = .ok (.istore 11, 2) := by decide +kernel
theorem dL_told_391 : decode cL_told 391 = .ok (.iinc 12 1, 3) := by decide +kernel
theorem dL_told_394 : decode cL_told 394 = .ok (.goto (-40), 3) := by decide +kernel
theorem dL_told_397 : decode cL_told 397 = .ok (.aload_n 0, 1) := by decide +kernel
theorem dL_told_398 : decode cL_told 398 = .ok (.iload 9, 2) := by decide +kernel
theorem dL_told_400 : decode cL_told 400 = .ok (.iconst 0, 1) := by decide +kernel
theorem dL_told_401 : decode cL_told 401 = .ok (.invokevirtual 77, 3) := by decide +kernel
theorem dL_told_404 : decode cL_told 404 = .ok (.iload 10, 2) := by decide +kernel
theorem dL_told_406 : decode cL_told 406 = .ok (.if_icmp .ne 69, 3) := by decide +kernel
theorem dL_told_409 : decode cL_told 409 = .ok (.aload_n 0, 1) := by decide +kernel
theorem dL_told_410 : decode cL_told 410 = .ok (.iload 9, 2) := by decide +kernel
theorem dL_told_412 : decode cL_told 412 = .ok (.iconst 1, 1) := by decide +kernel
theorem dL_told_413 : decode cL_told 413 = .ok (.invokevirtual 77, 3) := by decide +kernel
theorem dL_told_416 : decode cL_told 416 = .ok (.iload 9, 2) := by decide +kernel
theorem dL_told_418 : decode cL_told 418 = .ok (.iconst 0, 1) := by decide +kernel
theorem dL_told_419 : decode cL_told 419 = .ok (.aload_n 1, 1) := by decide +kernel
theorem dL_told_420 : decode cL_told 420 = .ok (.aload_n 2, 1) := by decide +kernel
theorem dL_told_421 : decode cL_told 421 = .ok (.invokestatic 18, 3) := by decide +kernel
theorem dL_told_424 : decode cL_told 424 = .ok (.if_icmp .ne 51, 3) := by decide +kernel
theorem dL_told_427 : decode cL_told 427 = .ok (.aload_n 0, 1) := by decide +kernel
theorem dL_told_428 : decode cL_told 428 = .ok (.iload 9, 2) := by decide +kernel
theorem dL_told_430 : decode cL_told 430 = .ok (.iconst 2, 1) := by decide +kernel
theorem dL_told_431 : decode cL_told 431 = .ok (.invokevirtual 77, 3) := by decide +kernel
theorem dL_told_434 : decode cL_told 434 = .ok (.iload 11, 2) := by decide +kernel
theorem dL_told_436 : decode cL_told 436 = .ok (.if_icmp .ne 39, 3) := by decide +kernel
theorem dL_told_439 : decode cL_told 439 = .ok (.aload_n 0, 1) := by decide +kernel
theorem dL_told_440 : decode cL_told 440 = .ok (.iload 9, 2) := by decide +kernel
theorem dL_told_442 : decode cL_told 442 = .ok (.iconst 3, 1) := by decide +kernel
theorem dL_told_443 : decode cL_told 443 = .ok (.invokevirtual 77, 3) := by decide +kernel
theorem dL_told_446 : decode cL_told 446 = .ok (.aload_n 1, 1) := by decide +kernel
theorem dL_told_447 : decode cL_told 447 = .ok (.bipush 16, 2) := by decide +kernel
theorem dL_told_449 : decode cL_told 449 = .ok (.iload 9, 2) := by decide +kernel
theorem dL_told_451 : decode cL_told 451 = .ok (.iadd, 1) := by decide +kernel
theorem dL_told_452 : decode cL_told 452 = .ok (.iaload, 1) := by decide +kernel
theorem dL_told_453 : decode cL_told 453 = .ok (.if_icmp .ne 22, 3) := by decide +kernel
theorem dL_told_456 : decode cL_told 456 = .ok (.aload_n 0, 1) := by decide +kernel
theorem dL_told_457 : decode cL_told 457 = .ok (.iload 9, 2) := by decide +kernel
theorem dL_told_459 : decode cL_told 459 = .ok (.iconst 4, 1) := by decide +kernel
theorem dL_told_460 : decode cL_told 460 = .ok (.invokevirtual 77, 3) := by decide +kernel
theorem dL_told_463 : decode cL_told 463 = .ok (.aload_n 1, 1) := by decide +kernel
theorem dL_told_464 : decode cL_told 464 = .ok (.bipush 19, 2) := by decide +kernel
theorem dL_told_466 : decode cL_told 466 = .ok (.iaload, 1) := by decide +kernel
theorem dL_told_467 : decode cL_told 467 = .ok (.iload 9, 2) := by decide +kernel
theorem dL_told_469 : decode cL_told 469 = .ok (.ishr, 1) := by decide +kernel
theorem dL_told_470 : decode cL_told 470 = .ok (.iconst 1, 1) := by decide +kernel
theorem dL_told_471 : decode cL_told 471 = .ok (.iand, 1) := by decide +kernel
theorem dL_told_472 : decode cL_told 472 = .ok (.if_icmp .eq 5, 3) := by decide +kernel
theorem dL_told_475 : decode cL_told 475 = .ok (.iconst 0, 1) := by decide +kernel
theorem dL_told_476 : decode cL_told 476 = .ok (.ireturn, 1) := by decide +kernel
theorem dL_told_477 : decode cL_told 477 = .ok (.iinc 9 1, 3) := by decide +kernel
theorem dL_told_480 : decode cL_told 480 = .ok (.goto (-141), 3) := by decide +kernel
theorem dL_told_483 : decode cL_told 483 = .ok (.iconst 0, 1) := by decide +kernel
theorem dL_told_484 : decode cL_told 484 = .ok (.istore 9, 2) := by decide +kernel
theorem dL_told_486 : decode cL_told 486 = .ok (.iload 9, 2) := by decide +kernel
theorem dL_told_488 : decode cL_told 488 = .ok (.iconst 5, 1) := by decide +kernel
theorem dL_told_489 : decode cL_told 489 = .ok (.if_icmp .ge 27, 3) := by decide +kernel
theorem dL_told_492 : decode cL_told 492 = .ok (.aload_n 0, 1) := by decide +kernel
theorem dL_told_493 : decode cL_told 493 = .ok (.iload 9, 2) := by decide +kernel
theorem dL_told_495 : decode cL_told 495 = .ok (.invokevirtual 80, 3) := by decide +kernel
theorem dL_told_498 : decode cL_told 498 = .ok (.aload_n 1, 1) := by decide +kernel
theorem dL_told_499 : decode cL_told 499 = .ok (.bipush 8, 2) := by decide +kernel
theorem dL_told_501 : decode cL_told 501 = .ok (.iload 9, 2) := by decide +kernel
theorem dL_told_503 : decode cL_told 503 = .ok (.iadd, 1) := by decide +kernel
theorem dL_told_504 : decode cL_told 504 = .ok (.iaload, 1) := by decide +kernel
theorem dL_told_505 : decode cL_told 505 = .ok (.if_icmp .eq 5, 3) := by decide +kernel
theorem dL_told_508 : decode cL_told 508 = .ok (.iconst 0, 1) := by decide +kernel
theorem dL_told_509 : decode cL_told 509 = .ok (.ireturn, 1) := by decide +kernel
theorem dL_told_510 : decode cL_told 510 = .ok (.iinc 9 1, 3) := by decide +kernel
theorem dL_told_513 : decode cL_told 513 = .ok (.goto (-27), 3) := by decide +kernel
theorem dL_told_516 : decode cL_told 516 = .ok (.iconst 0, 1) := by decide +kernel
theorem dL_told_517 : decode cL_told 517 = .ok (.istore 9, 2) := by decide +kernel
theorem dL_told_519 : decode cL_told 519 = .ok (.iload 9, 2) := by decide +kernel
theorem dL_told_521 : decode cL_told 521 = .ok (.iconst 4, 1) := by decide +kernel
theorem dL_told_522 : decode cL_told 522 = .ok (.if_icmp .ge 26, 3) := by decide +kernel
theorem dL_told_525 : decode cL_told 525 = .ok (.aload_n 0, 1) := by decide +kernel
theorem dL_told_526 : decode cL_told 526 = .ok (.iload 9, 2) := by decide +kernel
theorem dL_told_528 : decode cL_told 528 = .ok (.invokevirtual 83, 3) := by decide +kernel
theorem dL_told_531 : decode cL_told 531 = .ok (.aload_n 1, 1) := by decide +kernel
theorem dL_told_532 : decode cL_told 532 = .ok (.iconst 4, 1) := by decide +kernel
theorem dL_told_533 : decode cL_told 533 = .ok (.iload 9, 2) := by decide +kernel
theorem dL_told_535 : decode cL_told 535 = .ok (.iadd, 1) := by decide +kernel
theorem dL_told_536 : decode cL_told 536 = .ok (.iaload, 1) := by decide +kernel
theorem dL_told_537 : decode cL_told 537 = .ok (.if_icmp .eq 5, 3) := by decide +kernel
theorem dL_told_540 : decode cL_told 540 = .ok (.iconst 0, 1) := by decide +kernel
theorem dL_told_541 : decode cL_told 541 = .ok (.ireturn, 1) := by decide +kernel
theorem dL_told_542 : decode cL_told 542 = .ok (.iinc 9 1, 3) := by decide +kernel
theorem dL_told_545 : decode cL_told 545 = .ok (.goto (-26), 3) := by decide +kernel
theorem dL_told_548 : decode cL_told 548 = .ok (.aload 5, 2) := by decide +kernel
theorem dL_told_550 : decode cL_told 550 = .ok (.iconst 3, 1) := by decide +kernel
theorem dL_told_551 : decode cL_told 551 = .ok (.iaload, 1) := by decide +kernel
theorem dL_told_552 : decode cL_told 552 = .ok (.aload 5, 2) := by decide +kernel
theorem dL_told_554 : decode cL_told 554 = .ok (.bipush 7, 2) := by decide +kernel
theorem dL_told_556 : decode cL_told 556 = .ok (.iaload, 1) := by decide +kernel
theorem dL_told_557 : decode cL_told 557 = .ok (.iadd, 1) := by decide +kernel
theorem dL_told_558 : decode cL_told 558 = .ok (.istore 9, 2) := by decide +kernel
theorem dL_told_560 : decode cL_told 560 = .ok (.aload_n 0, 1) := by decide +kernel
theorem dL_told_561 : decode cL_told 561 = .ok (.iconst 5, 1) := by decide +kernel
theorem dL_told_562 : decode cL_told 562 = .ok (.invokevirtual 80, 3) := by decide +kernel
theorem dL_told_565 : decode cL_told 565 = .ok (.iload 9, 2) := by decide +kernel
theorem dL_told_567 : decode cL_told 567 = .ok (.if_icmp .ne 143, 3) := by decide +kernel
theorem dL_told_570 : decode cL_told 570 = .ok (.aload_n 0, 1) := by decide +kernel
theorem dL_told_571 : decode cL_told 571 = .ok (.bipush 6, 2) := by decide +kernel
theorem dL_told_573 : decode cL_told 573 = .ok (.invokevirtual 80, 3) := by decide +kernel
theorem dL_told_576 : decode cL_told 576 = .ok (.aload_n 1, 1) := by decide +kernel
theorem dL_told_577 : decode cL_told 577 = .ok (.bipush 13, 2) := by decide +kernel
theorem dL_told_579 : decode cL_told 579 = .ok (.iaload, 1) := by decide +kernel
theorem dL_told_580 : decode cL_told 580 = .ok (.if_icmp .ne 130, 3) := by decide +kernel
theorem dL_told_583 : decode cL_told 583 = .ok (.aload_n 0, 1) := by decide +kernel
theorem dL_told_584 : decode cL_told 584 = .ok (.bipush 7, 2) := by decide +kernel
theorem dL_told_586 : decode cL_told 586 = .ok (.invokevirtual 80, 3) := by decide +kernel
theorem dL_told_589 : decode cL_told 589 = .ok (.aload_n 1, 1) := by decide +kernel
theorem dL_told_590 : decode cL_told 590 = .ok (.bipush 14, 2) := by decide +kernel
theorem dL_told_592 : decode cL_told 592 = .ok (.iaload, 1) := by decide +kernel
theorem dL_told_593 : decode cL_told 593 = .ok (.if_icmp .ne 117, 3) := by decide +kernel
theorem dL_told_596 : decode cL_told 596 = .ok (.aload_n 1, 1) := by decide +kernel
theorem dL_told_597 : decode cL_told 597 = .ok (.bipush 8, 2) := by decide +kernel
theorem dL_told_599 : decode cL_told 599 = .ok (.iaload, 1) := by decide +kernel
theorem dL_told_600 : decode cL_told 600 = .ok (.aload_n 1, 1) := by decide +kernel
theorem dL_told_601 : decode cL_told 601 = .ok (.bipush 9, 2) := by decide +kernel
theorem dL_told_603 : decode cL_told 603 = .ok (.iaload, 1) := by decide +kernel
theorem dL_told_604 : decode cL_told 604 = .ok (.aload_n 1, 1) := by decide +kernel
theorem dL_told_605 : decode cL_told 605 = .ok (.bipush 10, 2) := by decide +kernel
theorem dL_told_607 : decode cL_told 607 = .ok (.iaload, 1) := by decide +kernel
theorem dL_told_608 : decode cL_told 608 = .ok (.iadd, 1) := by decide +kernel
theorem dL_told_609 : decode cL_told 609 = .ok (.aload_n 1, 1) := by decide +kernel
theorem dL_told_610 : decode cL_told 610 = .ok (.bipush 11, 2) := by decide +kernel
theorem dL_told_612 : decode cL_told 612 = .ok (.iaload, 1) := by decide +kernel
theorem dL_told_613 : decode cL_told 613 = .ok (.iadd, 1) := by decide +kernel
theorem dL_told_614 : decode cL_told 614 = .ok (.aload_n 1, 1) := by decide +kernel
theorem dL_told_615 : decode cL_told 615 = .ok (.bipush 12, 2) := by decide +kernel
theorem dL_told_617 : decode cL_told 617 = .ok (.iaload, 1) := by decide +kernel
theorem dL_told_618 : decode cL_told 618 = .ok (.iadd, 1) := by decide +kernel
theorem dL_told_619 : decode cL_told 619 = .ok (.iload 9, 2) := by decide +kernel
theorem dL_told_621 : decode cL_told 621 = .ok (.iadd, 1) := by decide +kernel
theorem dL_told_622 : decode cL_told 622 = .ok (.if_icmp .ne 88, 3) := by decide +kernel
theorem dL_told_625 : decode cL_told 625 = .ok (.aload_n 0, 1) := by decide +kernel
theorem dL_told_626 : decode cL_told 626 = .ok (.iconst 0, 1) := by decide +kernel
theorem dL_told_627 : decode cL_told 627 = .ok (.invokevirtual 86, 3) := by decide +kernel
theorem dL_told_630 : decode cL_told 630 = .ok (.aload_n 1, 1) := by decide +kernel
theorem dL_told_631 : decode cL_told 631 = .ok (.iconst 0, 1) := by decide +kernel
theorem dL_told_632 : decode cL_told 632 = .ok (.iaload, 1) := by decide +kernel
theorem dL_told_633 : decode cL_told 633 = .ok (.if_icmp .ne 77, 3) := by decide +kernel
theorem dL_told_636 : decode cL_told 636 = .ok (.aload_n 0, 1) := by decide +kernel
theorem dL_told_637 : decode cL_told 637 = .ok (.iconst 1, 1) := by decide +kernel
theorem dL_told_638 : decode cL_told 638 = .ok (.invokevirtual 86, 3) := by decide +kernel
theorem dL_told_641 : decode cL_told 641 = .ok (.aload_n 1, 1) := by decide +kernel
theorem dL_told_642 : decode cL_told 642 = .ok (.iconst 1, 1) := by decide +kernel
theorem dL_told_643 : decode cL_told 643 = .ok (.iaload, 1) := by decide +kernel
theorem dL_told_644 : decode cL_told 644 = .ok (.if_icmp .ne 66, 3) := by decide +kernel
theorem dL_told_647 : decode cL_told 647 = .ok (.aload_n 0, 1) := by decide +kernel
theorem dL_told_648 : decode cL_told 648 = .ok (.iconst 2, 1) := by decide +kernel
theorem dL_told_649 : decode cL_told 649 = .ok (.invokevirtual 86, 3) := by decide +kernel
theorem dL_told_652 : decode cL_told 652 = .ok (.aload_n 1, 1) := by decide +kernel
theorem dL_told_653 : decode cL_told 653 = .ok (.iconst 2, 1) := by decide +kernel
theorem dL_told_654 : decode cL_told 654 = .ok (.iaload, 1) := by decide +kernel
theorem dL_told_655 : decode cL_told 655 = .ok (.if_icmp .ne 55, 3) := by decide +kernel
theorem dL_told_658 : decode cL_told 658 = .ok (.aload_n 0, 1) := by decide +kernel
theorem dL_told_659 : decode cL_told 659 = .ok (.iconst 4, 1) := by decide +kernel
theorem dL_told_660 : decode cL_told 660 = .ok (.invokevirtual 86, 3) := by decide +kernel
theorem dL_told_663 : decode cL_told 663 = .ok (.aload_n 1, 1) := by decide +kernel
theorem dL_told_664 : decode cL_told 664 = .ok (.iconst 3, 1) := by decide +kernel
theorem dL_told_665 : decode cL_told 665 = .ok (.iaload, 1) := by decide +kernel
theorem dL_told_666 : decode cL_told 666 = .ok (.if_icmp .ne 44, 3) := by decide +kernel
theorem dL_told_669 : decode cL_told 669 = .ok (.aload_n 0, 1) := by decide +kernel
theorem dL_told_670 : decode cL_told 670 = .ok (.bipush 7, 2) := by decide +kernel
theorem dL_told_672 : decode cL_told 672 = .ok (.invokevirtual 86, 3) := by decide +kernel
theorem dL_told_675 : decode cL_told 675 = .ok (.iload 8, 2) := by decide +kernel
theorem dL_told_677 : decode cL_told 677 = .ok (.if_icmp .ne 33, 3) := by decide +kernel
theorem dL_told_680 : decode cL_told 680 = .ok (.aload_n 0, 1) := by decide +kernel
theorem dL_told_681 : decode cL_told 681 = .ok (.invokevirtual 89, 3) := by decide +kernel
theorem dL_told_684 : decode cL_told 684 = .ok (.iload 7, 2) := by decide +kernel
theorem dL_told_686 : decode cL_told 686 = .ok (.ifCond .ne 7, 3) := by decide +kernel
theorem dL_told_689 : decode cL_told 689 = .ok (.dconst 1, 1) := by decide +kernel
theorem dL_told_690 : decode cL_told 690 = .ok (.goto 12, 3) := by decide +kernel
theorem dL_told_693 : decode cL_told 693 = .ok (.iload 6, 2) := by decide +kernel
theorem dL_told_695 : decode cL_told 695 = .ok (.i2d, 1) := by decide +kernel
theorem dL_told_696 : decode cL_told 696 = .ok (.dconst 1, 1) := by decide +kernel
theorem dL_told_697 : decode cL_told 697 = .ok (.dmul, 1) := by decide +kernel
theorem dL_told_698 : decode cL_told 698 = .ok (.iload 7, 2) := by decide +kernel
theorem dL_told_700 : decode cL_told 700 = .ok (.i2d, 1) := by decide +kernel
theorem dL_told_701 : decode cL_told 701 = .ok (.ddiv, 1) := by decide +kernel
theorem dL_told_702 : decode cL_told 702 = .ok (.dcmp .l, 1) := by decide +kernel
theorem dL_told_703 : decode cL_told 703 = .ok (.ifCond .ne 7, 3) := by decide +kernel
theorem dL_told_706 : decode cL_told 706 = .ok (.iconst 1, 1) := by decide +kernel
theorem dL_told_707 : decode cL_told 707 = .ok (.goto 4, 3) := by decide +kernel
theorem dL_told_710 : decode cL_told 710 = .ok (.iconst 0, 1) := by decide +kernel
theorem dL_told_711 : decode cL_told 711 = .ok (.ireturn, 1) := by decide +kernel
theorem dL_law_0 : decode cL_law 0 = .ok (.new 34, 3) := by decide +kernel
theorem dL_law_3 : decode cL_law 3 = .ok (.dup, 1) := by decide +kernel
theorem dL_law_4 : decode cL_law 4 = .ok (.invokespecial 93, 3) := by decide +kernel
theorem dL_law_7 : decode cL_law 7 = .ok (.astore_n 1, 1) := by decide +kernel
theorem dL_law_8 : decode cL_law 8 = .ok (.bipush 20, 2) := by decide +kernel
theorem dL_law_10 : decode cL_law 10 = .ok (.newarray .int, 2) := by decide +kernel
theorem dL_law_12 : decode cL_law 12 = .ok (.astore_n 2, 1) := by decide +kernel
theorem dL_law_13 : decode cL_law 13 = .ok (.bipush 48, 2) := by decide +kernel
theorem dL_law_15 : decode cL_law 15 = .ok (.newarray .int, 2) := by decide +kernel
theorem dL_law_17 : decode cL_law 17 = .ok (.astore_n 3, 1) := by decide +kernel
theorem dL_law_18 : decode cL_law 18 = .ok (.bipush 16, 2) := by decide +kernel
theorem dL_law_20 : decode cL_law 20 = .ok (.newarray .int, 2) := by decide +kernel
theorem dL_law_22 : decode cL_law 22 = .ok (.astore 4, 2) := by decide +kernel
theorem dL_law_24 : decode cL_law 24 = .ok (.bipush 30, 2) := by decide +kernel
theorem dL_law_26 : decode cL_law 26 = .ok (.newarray .int, 2) := by decide +kernel
theorem dL_law_28 : decode cL_law 28 = .ok (.astore 5, 2) := by decide +kernel
theorem dL_law_30 : decode cL_law 30 = .ok (.bipush 8, 2) := by decide +kernel
theorem dL_law_32 : decode cL_law 32 = .ok (.newarray .int, 2) := by decide +kernel
theorem dL_law_34 : decode cL_law 34 = .ok (.astore 6, 2) := by decide +kernel
theorem dL_law_36 : decode cL_law 36 = .ok (.bipush 12, 2) := by decide +kernel
theorem dL_law_38 : decode cL_law 38 = .ok (.newarray .int, 2) := by decide +kernel
theorem dL_law_40 : decode cL_law 40 = .ok (.astore 7, 2) := by decide +kernel
theorem dL_law_42 : decode cL_law 42 = .ok (.aload_n 2, 1) := by decide +kernel
theorem dL_law_43 : decode cL_law 43 = .ok (.aload 6, 2) := by decide +kernel
theorem dL_law_45 : decode cL_law 45 = .ok (.aload 7, 2) := by decide +kernel
theorem dL_law_47 : decode cL_law 47 = .ok (.invokestatic 94, 3) := by decide +kernel
theorem dL_law_50 : decode cL_law 50 = .ok (.aload_n 1, 1) := by decide +kernel
theorem dL_law_51 : decode cL_law 51 = .ok (.aload_n 2, 1) := by decide +kernel
theorem dL_law_52 : decode cL_law 52 = .ok (.aload_n 3, 1) := by decide +kernel
theorem dL_law_53 : decode cL_law 53 = .ok (.aload 4, 2) := by decide +kernel
theorem dL_law_55 : decode cL_law 55 = .ok (.aload 5, 2) := by decide +kernel
theorem dL_law_57 : decode cL_law 57 = .ok (.aload 6, 2) := by decide +kernel
theorem dL_law_59 : decode cL_law 59 = .ok (.invokestatic 98, 3) := by decide +kernel
theorem dL_law_62 : decode cL_law 62 = .ok (.ifCond .ne 5, 3) := by decide +kernel
theorem dL_law_65 : decode cL_law 65 = .ok (.iconst 0, 1) := by decide +kernel
theorem dL_law_66 : decode cL_law 66 = .ok (.ireturn, 1) := by decide +kernel
theorem dL_law_67 : decode cL_law 67 = .ok (.iconst 0, 1) := by decide +kernel
theorem dL_law_68 : decode cL_law 68 = .ok (.istore 8, 2) := by decide +kernel
theorem dL_law_70 : decode cL_law 70 = .ok (.iload 8, 2) := by decide +kernel
theorem dL_law_72 : decode cL_law 72 = .ok (.bipush 30, 2) := by decide +kernel
theorem dL_law_74 : decode cL_law 74 = .ok (.if_icmp .ge 184, 3) := by decide +kernel
theorem dL_law_77 : decode cL_law 77 = .ok (.aload_n 0, 1) := by decide +kernel
theorem dL_law_78 : decode cL_law 78 = .ok (.iconst 2, 1) := by decide +kernel
theorem dL_law_79 : decode cL_law 79 = .ok (.iload 8, 2) := by decide +kernel
theorem dL_law_81 : decode cL_law 81 = .ok (.imul, 1) := by decide +kernel
theorem dL_law_82 : decode cL_law 82 = .ok (.invokestatic 102, 3) := by decide +kernel
theorem dL_law_85 : decode cL_law 85 = .ok (.istore 9, 2) := by decide +kernel
theorem dL_law_87 : decode cL_law 87 = .ok (.aload_n 0, 1) := by decide +kernel
theorem dL_law_88 : decode cL_law 88 = .ok (.iconst 2, 1) := by decide +kernel
theorem dL_law_89 : decode cL_law 89 = .ok (.iload 8, 2) := by decide +kernel
theorem dL_law_91 : decode cL_law 91 = .ok (.imul, 1) := by decide +kernel
theorem dL_law_92 : decode cL_law 92 = .ok (.iconst 1, 1) := by decide +kernel
theorem dL_law_93 : decode cL_law 93 = .ok (.iadd, 1) := by decide +kernel
theorem dL_law_94 : decode cL_law 94 = .ok (.invokestatic 102, 3) := by decide +kernel
theorem dL_law_97 : decode cL_law 97 = .ok (.istore 10, 2) := by decide +kernel
theorem dL_law_99 : decode cL_law 99 = .ok (.iload 8, 2) := by decide +kernel
theorem dL_law_101 : decode cL_law 101 = .ok (.iconst 3, 1) := by decide +kernel
theorem dL_law_102 : decode cL_law 102 = .ok (.if_icmp .ge 7, 3) := by decide +kernel
theorem dL_law_105 : decode cL_law 105 = .ok (.iconst 0, 1) := by decide +kernel
theorem dL_law_106 : decode cL_law 106 = .ok (.goto 13, 3) := by decide +kernel
theorem dL_law_109 : decode cL_law 109 = .ok (.iload 9, 2) := by decide +kernel
theorem dL_law_111 : decode cL_law 111 = .ok (.bipush 22, 2) := by decide +kernel
theorem dL_law_113 : decode cL_law 113 = .ok (.ishr, 1) := by decide +kernel
theorem dL_law_114 : decode cL_law 114 = .ok (.bipush 16, 2) := by decide +kernel
theorem dL_law_116 : decode cL_law 116 = .ok (.invokestatic 29, 3) := by decide +kernel
theorem dL_law_119 : decode cL_law 119 = .ok (.istore 11, 2) := by decide +kernel
theorem dL_law_121 : decode cL_law 121 = .ok (.iload 11, 2) := by decide +kernel
theorem dL_law_123 : decode cL_law 123 = .ok (.iconst 2, 1) := by decide +kernel
theorem dL_law_124 : decode cL_law 124 = .ok (.if_icmp .lt 9, 3) := by decide +kernel
theorem dL_law_127 : decode cL_law 127 = .ok (.aload_n 2, 1) := by decide +kernel
theorem dL_law_128 : decode cL_law 128 = .ok (.iconst 0, 1) := by decide +kernel
theorem dL_law_129 : decode cL_law 129 = .ok (.iaload, 1) := by decide +kernel
theorem dL_law_130 : decode cL_law 130 = .ok (.ifCond .ne 18, 3) := by decide +kernel
theorem dL_law_133 : decode cL_law 133 = .ok (.aload_n 1, 1) := by decide +kernel
theorem dL_law_134 : decode cL_law 134 = .ok (.iload 9, 2) := by decide +kernel
theorem dL_law_136 : decode cL_law 136 = .ok (.iload 10, 2) := by decide +kernel
theorem dL_law_138 : decode cL_law 138 = .ok (.aload_n 2, 1) := by decide +kernel
theorem dL_law_139 : decode cL_law 139 = .ok (.aload_n 3, 1) := by decide +kernel
theorem dL_law_140 : decode cL_law 140 = .ok (.aload 4, 2) := by decide +kernel
theorem dL_law_142 : decode cL_law 142 = .ok (.invokestatic 106, 3) := by decide +kernel
theorem dL_law_145 : decode cL_law 145 = .ok (.goto 83, 3) := by decide +kernel
theorem dL_law_148 : decode cL_law 148 = .ok (.iload 11, 2) := by decide +kernel
theorem dL_law_150 : decode cL_law 150 = .ok (.bipush 6, 2) := by decide +kernel
theorem dL_law_152 : decode cL_law 152 = .ok (.if_icmp .ge 18, 3) := by decide +kernel
theorem dL_law_155 : decode cL_law 155 = .ok (.aload_n 1, 1) := by decide +kernel
theorem dL_law_156 : decode cL_law 156 = .ok (.iload 9, 2) := by decide +kernel
theorem dL_law_158 : decode cL_law 158 = .ok (.iload 10, 2) := by decide +kernel
theorem dL_law_160 : decode cL_law 160 = .ok (.aload_n 2, 1) := by decide +kernel
theorem dL_law_161 : decode cL_law 161 = .ok (.aload_n 3, 1) := by decide +kernel
theorem dL_law_162 : decode cL_law 162 = .ok (.aload 6, 2) := by decide +kernel
theorem dL_law_164 : decode cL_law 164 = .ok (.invokestatic 109, 3) := by decide +kernel
theorem dL_law_167 : decode cL_law 167 = .ok (.goto 61, 3) := by decide +kernel
theorem dL_law_170 : decode cL_law 170 = .ok (.iload 11, 2) := by decide +kernel
theorem dL_law_172 : decode cL_law 172 = .ok (.bipush 9, 2) := by decide +kernel
theorem dL_law_174 : decode cL_law 174 = .ok (.if_icmp .ge 18, 3) := by decide +kernel
theorem dL_law_177 : decode cL_law 177 = .ok (.aload_n 1, 1) := by decide +kernel
theorem dL_law_178 : decode cL_law 178 = .ok (.iload 9, 2) := by decide +kernel
theorem dL_law_180 : decode cL_law 180 = .ok (.iload 10, 2) := by decide +kernel
theorem dL_law_182 : decode cL_law 182 = .ok (.aload_n 2, 1) := by decide +kernel
theorem dL_law_183 : decode cL_law 183 = .ok (.aload_n 3, 1) := by decide +kernel
theorem dL_law_184 : decode cL_law 184 = .ok (.aload 5, 2) := by decide +kernel
theorem dL_law_186 : decode cL_law 186 = .ok (.invokestatic 111, 3) := by decide +kernel
theorem dL_law_189 : decode cL_law 189 = .ok (.goto 39, 3) := by decide +kernel
theorem dL_law_192 : decode cL_law 192 = .ok (.iload 11, 2) := by decide +kernel
theorem dL_law_194 : decode cL_law 194 = .ok (.bipush 12, 2) := by decide +kernel
theorem dL_law_196 : decode cL_law 196 = .ok (.if_icmp .ge 18, 3) := by decide +kernel
theorem dL_law_199 : decode cL_law 199 = .ok (.aload_n 1, 1) := by decide +kernel
theorem dL_law_200 : decode cL_law 200 = .ok (.iload 9, 2) := by decide +kernel
theorem dL_law_202 : decode cL_law 202 = .ok (.iload 10, 2) := by decide +kernel
theorem dL_law_204 : decode cL_law 204 = .ok (.aload_n 2, 1) := by decide +kernel
theorem dL_law_205 : decode cL_law 205 = .ok (.aload_n 3, 1) := by decide +kernel
theorem dL_law_206 : decode cL_law 206 = .ok (.aload 5, 2) := by decide +kernel
theorem dL_law_208 : decode cL_law 208 = .ok (.invokestatic 113, 3) := by decide +kernel
theorem dL_law_211 : decode cL_law 211 = .ok (.goto 17, 3) := by decide +kernel
theorem dL_law_214 : decode cL_law 214 = .ok (.aload_n 1, 1) := by decide +kernel
theorem dL_law_215 : decode cL_law 215 = .ok (.iload 10, 2) := by decide +kernel
theorem dL_law_217 : decode cL_law 217 = .ok (.aload_n 2, 1) := by decide +kernel
theorem dL_law_218 : decode cL_law 218 = .ok (.aload_n 3, 1) := by decide +kernel
theorem dL_law_219 : decode cL_law 219 = .ok (.aload 4, 2) := by decide +kernel
theorem dL_law_221 : decode cL_law 221 = .ok (.aload 6, 2) := by decide +kernel
theorem dL_law_223 : decode cL_law 223 = .ok (.aload 7, 2) := by decide +kernel
theorem dL_law_225 : decode cL_law 225 = .ok (.invokestatic 115, 3) := by decide +kernel
theorem dL_law_228 : decode cL_law 228 = .ok (.istore 12, 2) := by decide +kernel
theorem dL_law_230 : decode cL_law 230 = .ok (.iload 12, 2) := by decide +kernel
theorem dL_law_232 : decode cL_law 232 = .ok (.ifCond .eq 18, 3) := by decide +kernel
theorem dL_law_235 : decode cL_law 235 = .ok (.aload_n 1, 1) := by decide +kernel
theorem dL_law_236 : decode cL_law 236 = .ok (.aload_n 2, 1) := by decide +kernel
theorem dL_law_237 : decode cL_law 237 = .ok (.aload_n 3, 1) := by decide +kernel
theorem dL_law_238 : decode cL_law 238 = .ok (.aload 4, 2) := by decide +kernel
theorem dL_law_240 : decode cL_law 240 = .ok (.aload 5, 2) := by decide +kernel
theorem dL_law_242 : decode cL_law 242 = .ok (.aload 6, 2) := by decide +kernel
theorem dL_law_244 : decode cL_law 244 = .ok (.invokestatic 98, 3) := by decide +kernel
theorem dL_law_247 : decode cL_law 247 = .ok (.ifCond .ne 5, 3) := by decide +kernel
theorem dL_law_250 : decode cL_law 250 = .ok (.iconst 0, 1) := by decide +kernel
theorem dL_law_251 : decode cL_law 251 = .ok (.ireturn, 1) := by decide +kernel
theorem dL_law_252 : decode cL_law 252 = .ok (.iinc 8 1, 3) := by decide +kernel
theorem dL_law_255 : decode cL_law 255 = .ok (.goto (-185), 3) := by decide +kernel
theorem dL_law_258 : decode cL_law 258 = .ok (.iconst 1, 1) := by decide +kernel
theorem dL_law_259 : decode cL_law 259 = .ok (.ireturn, 1) := by decide +kernel
end
section

end
section
/-! THE STATES. VS: a village, a text or the reference's rows: row k, place j. PS: villages by number (0 now, 1 ahead, 2 3 images, 4..11 the history's), 12 the text and the rest; and which village stands at a place of the history. RS: the reference. -/
abbrev VS : Type := Nat → Nat → Int32
abbrev PS : Type := (Nat → VS) × (Nat → Nat)
abbrev RS : Type := VS × Int64
def rd (v : VS) (k : Nat) (i : Int32) : Int32 := v k i.toNatClampNeg
def wn (v : VS) (k j : Nat) (x : Int32) : VS := va_up v k (upd (v k) j x)
def wr (v : VS) (k : Nat) (i x : Int32) : VS := wn v k i.toNatClampNeg x
def cpy (v : VS) (k : Nat) (f : Nat → Int32) (n : Nat) : VS := va_up v k (va_cpy f (v k) 0 0 n)
def setV (S : PS) (i : Nat) (v : VS) : PS := (va_up S.1 i v, S.2)
def setP (S : PS) (j p : Nat) : PS := (S.1, va_up S.2 j p)
def setR (S : RS) (v : VS) : RS := (v, S.2)
def setH (S : RS) (x : Int64) : RS := (S.1, x)
def n64 (r : UInt64) : Bool := decide (r &&& 0x7fffffffffffffff ≤ 0x7ff0000000000000)
theorem n64_v {r : UInt64} (h : n64 r = true) : vf_n64 r := by
  unfold n64 at h
  unfold vf_n64
  exact of_decide_eq_true h
theorem va_up_id {α : Type} (f : Nat → α) (k : Nat) : va_up f k (f k) = f := by
  funext j
  by_cases h : j = k
  · subst h; simp [va_up]
  · simp [va_up, h]
theorem va_up_up {α : Type} (f : Nat → α) (k : Nat) (x y : α) : va_up (va_up f k x) k y = va_up f k y := by
  funext j
  by_cases h : j = k
  · subst h; simp [va_up]
  · simp [va_up, h]
theorem va_up_at {α : Type} (f : Nat → α) (k : Nat) (x : α) : va_up f k x k = x := by simp [va_up]
theorem setV_id (S : PS) (i : Nat) : setV S i (S.1 i) = S := by unfold setV; rw [va_up_id]
theorem setV_up (S : PS) (i : Nat) (v w : VS) : setV (setV S i v) i w = setV S i w := by unfold setV; rw [va_up_up]
theorem setV_at (S : PS) (i : Nat) (v : VS) : (setV S i v).1 i = v := va_up_at _ _ _
def vlen : Nat → Nat
  | 0 => 10 | 1 => 10 | 2 => 10 | 3 => 10 | 4 => 10 | 5 => 10 | 6 => 10 | 7 => 10 | 8 => 10 | 9 => 10
  | 10 => 12 | 11 => 12 | 12 => 12 | 13 => 2 | 14 => 2 | 15 => 2 | 16 => 2 | 17 => 4 | 18 => 8 | 19 => 3 | 20 => 3 | _ => 48
def rlen : Nat → Nat
  | 0 => 198 | 1 => 198 | 2 => 1584 | 3 => 396 | 4 => 60 | 5 => 10 | _ => 48
def tlen : Nat → Nat
  | 0 => 60 | _ => 48
def fsH (ad : Nat → Nat) (v : VS) : List Value := [.int (v 22 0), .ref (ad 0), .ref (ad 1), .ref (ad 2), .ref (ad 3), .ref (ad 4), .ref (ad 5), .ref (ad 6), .ref (ad 7), .ref (ad 8), .ref (ad 9)]
def fsL (ad : Nat → Nat) (v : VS) : List Value := [.int (v 22 1), .ref (ad 10), .ref (ad 11), .ref (ad 12)]
def fsB (ad : Nat → Nat) (_ : VS) : List Value := [.ref (ad 13), .ref (ad 14), .ref (ad 15), .ref (ad 16)]
def fsV (ad : Nat → Nat) (v : VS) : List Value := [.ref (ad 23), .ref (ad 24), .ref (ad 25), .ref (ad 17), .ref (ad 18), .ref (ad 19), .ref (ad 20), .ref (ad 21), .int (v 22 2), .int (v 22 3), .int (v 22 4)]
def fsT (ad : Nat → Nat) (v : VS) : List Value := [.int (v 2 0), .ref (ad 0), .int (v 2 1), .ref (ad 1), .int (v 2 2), .int (v 2 3)]
def fsHi (ad : Nat → Nat) (v : VS) : List Value := [.int (v 2 4), .ref (ad 5)]
def fsP (AD : Nat → Nat → Nat) : List Value := [.ref (AD 0 22), .ref (AD 1 22), .ref (AD 12 4), .ref (AD 12 6), .ref (AD 12 3), .ref (AD 12 2)]
def fsM (ad : Nat → Nat) (S : RS) : List Value := [.ref (ad 0), .ref (ad 1), .int (S.1 7 0), .ref (ad 2), .int (S.1 7 1), .ref (ad 3), .int (S.1 7 2), .ref (ad 4), .ref (ad 5), .ref (ad 6), .int (S.1 7 3), .int (S.1 7 4), .int (S.1 7 5), .int (S.1 7 6), .int (S.1 7 7), .long S.2]
/-- a village at the addresses ad, seen through get and put -/
def IsVL {σ : Type} (get : σ → VS) (put : σ → VS → σ) (cI : ClassId) (B : σ → va_W) (ad : Nat → Nat) : Prop :=
  (∀ k, k < 22 → vAp cI B (ad k) (vlen k) (fun S => get S k) (fun S g => put S (va_up (get S) k g))) ∧ vOp B (ad 23) 2 (fun S => fsH ad (get S)) 0 (fun S x => put S (wn (get S) 22 0 x)) ∧ vOp B (ad 24) 4 (fun S => fsL ad (get S)) 0 (fun S x => put S (wn (get S) 22 1 x)) ∧ vO B (ad 25) 0 (fun S => fsB ad (get S)) ∧ vOp B (ad 22) 5 (fun S => fsV ad (get S)) 8 (fun S x => put S (wn (get S) 22 2 x)) ∧ vOp B (ad 22) 5 (fun S => fsV ad (get S)) 9 (fun S x => put S (wn (get S) 22 3 x)) ∧ vOp B (ad 22) 5 (fun S => fsV ad (get S)) 10 (fun S x => put S (wn (get S) 22 4 x))
abbrev IsVill (cI : ClassId) (B : VS → va_W) (ad : Nat → Nat) : Prop := IsVL (fun v => v) (fun _ v => v) cI B ad
theorem vAp.down {σ : Type} {get : σ → VS} {put : σ → VS → σ} {cI : ClassId} {B : σ → va_W} {a n k : Nat} (hgp : ∀ S v, get (put S v) = v) (hpp : ∀ S v w, put (put S v) w = put S w) (h : vAp cI B a n (fun S => get S k) (fun S g => put S (va_up (get S) k g))) (S : σ) : vAp cI (fun v => B (put S v)) a n (fun v => v k) (fun v g => va_up v k g) := by
  intro v g
  obtain ⟨pos, h1, h2⟩ := h (put S v) g
  dsimp only at h1 h2
  rw [hgp] at h1 h2
  rw [hpp] at h2
  exact ⟨pos, h1, h2⟩
theorem vOp.down {σ : Type} {get : σ → VS} {put : σ → VS → σ} {B : σ → va_W} {a ci k : Nat} {fs : VS → List Value} {w : VS → Int32 → VS} (hgp : ∀ S v, get (put S v) = v) (hpp : ∀ S v w, put (put S v) w = put S w) (h : vOp B a ci (fun S => fs (get S)) k (fun S x => put S (w (get S) x))) (S : σ) : vOp (fun v => B (put S v)) a ci (fun v => fs v) k (fun v x => w v x) := by
  intro v x
  obtain ⟨pos, h1, h2⟩ := h (put S v) x
  dsimp only at h1 h2
  rw [hgp] at h1 h2
  rw [hpp] at h2
  exact ⟨pos, h1, h2⟩
theorem vO.down {σ : Type} {get : σ → VS} {put : σ → VS → σ} {B : σ → va_W} {a ci : Nat} {fs : VS → List Value} (hgp : ∀ S v, get (put S v) = v) (h : vO B a ci (fun S => fs (get S))) (S : σ) : vO (fun v => B (put S v)) a ci (fun v => fs v) := by
  intro v
  obtain ⟨pos, h1⟩ := h (put S v)
  dsimp only at h1
  rw [hgp] at h1
  exact ⟨pos, h1⟩
theorem IsVL.down {σ : Type} {get : σ → VS} {put : σ → VS → σ} {cI : ClassId} {B : σ → va_W} {ad : Nat → Nat} (hgp : ∀ S v, get (put S v) = v) (hpp : ∀ S v w, put (put S v) w = put S w) (h : IsVL get put cI B ad) (S : σ) : IsVill cI (fun v => B (put S v)) ad :=
  ⟨fun k hk => (h.1 k hk).down hgp hpp S, h.2.1.down hgp hpp S, h.2.2.1.down hgp hpp S, h.2.2.2.1.down hgp S, h.2.2.2.2.1.down hgp hpp S, h.2.2.2.2.2.1.down hgp hpp S, h.2.2.2.2.2.2.down hgp hpp S⟩
/-- the text -/
def IsTL {σ : Type} (get : σ → VS) (put : σ → VS → σ) (cI : ClassId) (B : σ → va_W) (ad : Nat → Nat) : Prop :=
  (∀ k, k < 2 → vAp cI B (ad k) (tlen k) (fun S => get S k) (fun S g => put S (va_up (get S) k g))) ∧ vOp B (ad 2) 3 (fun S => fsT ad (get S)) 0 (fun S x => put S (wn (get S) 2 0 x)) ∧ vOp B (ad 2) 3 (fun S => fsT ad (get S)) 2 (fun S x => put S (wn (get S) 2 1 x)) ∧ vOp B (ad 2) 3 (fun S => fsT ad (get S)) 4 (fun S x => put S (wn (get S) 2 2 x)) ∧ vOp B (ad 2) 3 (fun S => fsT ad (get S)) 5 (fun S x => put S (wn (get S) 2 3 x))
abbrev IsText (cI : ClassId) (B : VS → va_W) (ad : Nat → Nat) : Prop := IsTL (fun v => v) (fun _ v => v) cI B ad
theorem IsTL.down {σ : Type} {get : σ → VS} {put : σ → VS → σ} {cI : ClassId} {B : σ → va_W} {ad : Nat → Nat} (hgp : ∀ S v, get (put S v) = v) (hpp : ∀ S v w, put (put S v) w = put S w) (h : IsTL get put cI B ad) (S : σ) : IsText cI (fun v => B (put S v)) ad :=
  ⟨fun k hk => (h.1 k hk).down hgp hpp S, h.2.1.down hgp hpp S, h.2.2.1.down hgp hpp S, h.2.2.2.1.down hgp hpp S, h.2.2.2.2.down hgp hpp S⟩
/-- the pool -/
def IsPool (cI cZ cV : ClassId) (B : PS → va_W) (AD : Nat → Nat → Nat) : Prop :=
  (∀ i, i < 12 → IsVL (fun S : PS => S.1 i) (fun S v => setV S i v) cI B (AD i)) ∧ IsTL (fun S : PS => S.1 12) (fun S v => setV S 12 v) cI B (AD 12) ∧ vAp cZ B (AD 12 3) 2 (fun S => S.1 12 3) (fun S g => setV S 12 (va_up (S.1 12) 3 g)) ∧ vOp B (AD 12 4) 1 (fun S => fsHi (AD 12) (S.1 12)) 0 (fun S x => setV S 12 (wn (S.1 12) 2 4 x)) ∧ vQ cV B (AD 12 6) 2 (fun _ j => some (AD (2 + j) 22)) ∧ vO B (AD 12 7) 6 (fun _ => fsP AD) ∧
  vQ cV B (AD 12 5) 8 (fun S j => some (AD (S.2 j) 22)) ∧ ∀ i, vQp cV B (AD 12 5) 8 (fun S j => some (AD (S.2 j) 22)) (fun _ _ v => v = AD i 22) (fun S j _ => setP S j i)
theorem IsPool.v {cI cZ cV : ClassId} {B : PS → va_W} {AD : Nat → Nat → Nat} (h : IsPool cI cZ cV B AD) (S : PS) (i : Nat) (hi : i < 12) : IsVill cI (fun v => B (setV S i v)) (AD i) := (h.1 i hi).down (fun S v => setV_at S i v) (fun S v w => setV_up S i v w) S
theorem IsPool.t {cI cZ cV : ClassId} {B : PS → va_W} {AD : Nat → Nat → Nat} (h : IsPool cI cZ cV B AD) (S : PS) : IsText cI (fun v => B (setV S 12 v)) (AD 12) := h.2.1.down (fun S v => setV_at S 12 v) (fun S v w => setV_up S 12 v w) S
/-- the reference -/
def IsRef (cI : ClassId) (B : RS → va_W) (ad : Nat → Nat) : Prop :=
  (∀ k, k < 7 → vAp cI B (ad k) (rlen k) (fun S => S.1 k) (fun S g => setR S (va_up S.1 k g))) ∧ vOp B (ad 7) 7 (fsM ad) 2 (fun S x => setR S (wn S.1 7 0 x)) ∧ vOp B (ad 7) 7 (fsM ad) 4 (fun S x => setR S (wn S.1 7 1 x)) ∧ vOp B (ad 7) 7 (fsM ad) 6 (fun S x => setR S (wn S.1 7 2 x)) ∧ vOp B (ad 7) 7 (fsM ad) 10 (fun S x => setR S (wn S.1 7 3 x)) ∧ vOp B (ad 7) 7 (fsM ad) 11 (fun S x => setR S (wn S.1 7 4 x)) ∧ vOp B (ad 7) 7 (fsM ad) 12 (fun S x => setR S (wn S.1 7 5 x)) ∧ vOp B (ad 7) 7 (fsM ad) 13 (fun S x => setR S (wn S.1 7 6 x)) ∧ vOp B (ad 7) 7 (fsM ad) 14 (fun S x => setR S (wn S.1 7 7 x)) ∧ vOpl B (ad 7) 7 (fsM ad) 15 (fun S x => setH S x)
def nz (y : Int32) : Bool := decide (¬ y = 0)
theorem nz_v {y : Int32} (h : nz y = true) : ¬ y = 0 := of_decide_eq_true h
def isB (y : Int32) : Bool := decide (y = 0) || decide (y = 1)
theorem isB_v {y : Int32} (h : isB y = true) : narrow .boolean (.int y) = .int y := by
  unfold isB at h
  rw [Bool.or_eq_true, decide_eq_true_eq, decide_eq_true_eq] at h
  rcases h with rfl | rfl <;> rfl
def fuel : Nat := 100000
theorem sw_ne {x : Int32} {n : Int} {y : Int32} (h : ¬ x = y) (e : y.toInt = n) : x.toInt ≠ n := fun z => h (Int32.toInt_inj.mp (z.trans e.symm))
section JW
variable {σ ρ : Type} {X : JX σ} {own : String} {cc : ByteArray} {rm : Room} {pc : Nat} {lv : List (Nat × Value)} {st : List Value} {S : σ} {res : ρ}
theorem j_letS {e : σ} {f : σ → Option ρ} (hF : letv e f = some res) (k : ∀ y : σ, f y = some res → J X pc lv st y) : J X pc lv st e := k e hF
theorem j_letN {AD : Nat → Nat → Nat} {e : Nat} {f : Nat → Option ρ} (hF : letv e f = some res) (k : ∀ y : Nat, y = e → f y = some res → J X pc lv (.ref (AD y 22) :: st) S) : J X pc lv (.ref (AD e 22) :: st) S := k e rfl hF
theorem j_case {c : Prop} {dc : Decidable c} {fa fb : Option ρ} (hF : (if c then fa else fb) = some res) (ka : c → fa = some res → J X pc lv st S) (kb : ¬ c → fb = some res → J X pc lv st S) : J X pc lv st S := by
  by_cases hc : c
  · exact ka hc (ite_t hc hF)
  · exact kb hc (ite_f hc hF)
theorem ja_iald (h : OK X own cc rm) {a n k : Nat} {get : σ → VS} {put : σ → VS → σ} {i : Int32} (hA1 : vAp X.cI X.B a n (fun S => get S k) (fun S g => put S (va_up (get S) k g))) (hin : inb i n = true) (hdg : decode cc pc = .ok (.iaload, 1)) (kk : J X (pc + 1) lv (.int (rd (get S) k i) :: st) S) : J X pc lv (.int i :: .ref a :: st) S := j_iald h hA1.a hin hdg kk
theorem ja_iast (h : OK X own cc rm) {a n k : Nat} {get : σ → VS} {put : σ → VS → σ} {i x : Int32} (hA1 : vAp X.cI X.B a n (fun S => get S k) (fun S g => put S (va_up (get S) k g))) (hin : inb i n = true) (hdg : decode cc pc = .ok (.iastore, 1)) (kk : J X (pc + 1) lv st (put S (wr (get S) k i x))) : J X pc lv (.int x :: .int i :: .ref a :: st) S := j_iast h hA1 hin hdg kk
end JW
end
section
/-! the class's own tables: static arrays that nobody writes -/
def stHM : Nat → Int32 := fun j => match j with | 0 => 2 | 1 => 50 | 2 => 1000 | _ => 1
def stSM : Nat → Int32 := fun j => match j with | 0 => 50 | _ => 100
def stBL : Nat → Int32 := fun j => match j with | 2 => 50 | _ => 0
def stBM : Nat → Int32 := fun j => match j with | 0 => 500 | _ => 100
def Stat (t : Nat → Nat) (A : Nat → Prop) (U : State) (H : Heap) : Prop := (va_Z RX6 "HOUSE_MOST" "[I" (.ref (t 0)) A U H ∧ va_T .int (t 0) 4 (fun j => .int (stHM j)) A U H) ∧ (va_Z RX6 "SETTING_MOST" "[I" (.ref (t 1)) A U H ∧ va_T .int (t 1) 4 (fun j => .int (stSM j)) A U H) ∧ (va_Z RX6 "BATTERY_LEAST" "[I" (.ref (t 2)) A U H ∧ va_T .int (t 2) 3 (fun j => .int (stBL j)) A U H) ∧ (va_Z RX6 "BATTERY_MOST" "[I" (.ref (t 3)) A U H ∧ va_T .int (t 3) 3 (fun j => .int (stBM j)) A U H)
theorem Stat.moved {t : Nat → Nat} {A : Nat → Prop} {u U : State} {H : Heap} (hvm : u.vm.Alike U.vm) (h : Stat t A u H) : Stat t A U H := ⟨⟨h.1.1.moved hvm, h.1.2.moved hvm⟩, ⟨h.2.1.1.moved hvm, h.2.1.2.moved hvm⟩, ⟨h.2.2.1.1.moved hvm, h.2.2.1.2.moved hvm⟩, ⟨h.2.2.2.1.moved hvm, h.2.2.2.2.moved hvm⟩⟩
theorem Stat.kept {t : Nat → Nat} {A : Nat → Prop} {U : State} {H H1 : Heap} (h : Stat t A U H) (hq : ∀ a : Nat, a < H.size → ¬ A a → H1[a]? = H[a]?) : Stat t A U H1 := ⟨⟨h.1.1.kept hq, h.1.2.kept hq⟩, ⟨h.2.1.1.kept hq, h.2.1.2.kept hq⟩, ⟨h.2.2.1.1.kept hq, h.2.2.1.2.kept hq⟩, ⟨h.2.2.2.1.kept hq, h.2.2.2.2.kept hq⟩⟩
theorem Stat.narrow {t : Nat → Nat} {A B : Nat → Prop} {U : State} {H : Heap} (h : Stat t A U H) (hq : ∀ q, B q → A q) : Stat t B U H := ⟨⟨h.1.1.narrow hq, h.1.2.narrow hq⟩, ⟨h.2.1.1.narrow hq, h.2.1.2.narrow hq⟩, ⟨h.2.2.1.1.narrow hq, h.2.2.1.2.narrow hq⟩, ⟨h.2.2.2.1.narrow hq, h.2.2.2.2.narrow hq⟩⟩
section JS
variable {σ ρ : Type} {X : JX σ} {own : String} {cc : ByteArray} {rm : Room} {pc : Nat} {lv : List (Nat × Value)} {st : List Value} {S : σ}
theorem j_gets (h : OK X own cc rm) {name desc ref : String} {v : Value} {index : Nat} (hz : va_Z ref name desc v X.A X.s X.s.heap) (hq : (Cond.fieldLink own index ref name desc) ∈ lw_w) (hdg : decode cc pc = .ok (.getstatic index, 3)) (kk : J X (pc + 3) lv (v :: st) S) : J X pc lv st S := fun ls H locs a1 a2 a3 a4 => va_gets h.1 h.2.1 hz a4 h.2.2.2.1 (h.2.2.2.2.1 _ hq) (fun _ z => z) hdg (kk ls H locs a1 a2 a3 a4)
theorem j_sald (h : OK X own cc rm) {t N : Nat} {f : Nat → Int32} {i : Int32} (hT : va_T .int t N (fun j => .int (f j)) X.A X.s X.s.heap) (hin : inb i N = true) (hdg : decode cc pc = .ok (.iaload, 1)) (kk : J X (pc + 1) lv (.int (f i.toNatClampNeg) :: st) S) : J X pc lv (.int i :: .ref t :: st) S := fun ls H locs a1 a2 a3 a4 => va_ti h.1 h.2.1 hT a4 (inb_vp hin) rfl hdg (kk ls H locs a1 a2 a3 a4)
end JS
def CTis {τ : Type} (t : Nat → Nat) (l : Launch) (D : va_G) (tys : List (ClassId × FieldType)) (y : MethodName) (bytes : ByteArray) (maxL : Nat) (ret : Option FieldType) (rm : Room) (B : τ → va_W) (av : List Value) (T : τ) (r : Int32) (T' : τ) : Prop := ∀ sz, Met l y (.code y bytes maxL ret :: lw_w) rm (va_Pc av (fun U => PreB D tys B T sz U ∧ Stat t (va_A (B T) sz) U U.heap)) (va_Qi (fun (r1 : Int32) (_ : Unit) => r1 = r) (fun _ => PostB D tys B T T' sz) (va_A (B T) sz)) 0 0 (va_A (B T) sz)
set_option maxHeartbeats 1000000 in
theorem CTis.of {t : Nat → Nat} {τ : Type} {l : Launch} {D : va_G} {cI cZ cV : ClassId} {y : MethodName} {bytes : ByteArray} {maxL : Nat} {rm : Room} {B : τ → va_W} {av : List Value} {T T' : τ} {r : Int32} (lv0 : List (Nat × Value)) (hlv : lv_args 0 av = lv0) (hsl : (lg_sl av).length ≤ maxL) (hy : plainName y.cls = true) (hrm : rm.cells = 0 ∧ rm.slots = 0) 
    (body : ∀ X : JX τ, X.l = l → X.D = D → X.cI = cI → X.cZ = cZ → X.cV = cV → X.B = B → X.nL = maxL → OK X y.cls bytes rm → Stat t X.A X.s X.s.heap → EXi X bytes r T' → J X 0 lv0 [] T) : CTis t l D (jtys cI cZ cV) y bytes maxL (some .int) rm B av T r T' := by
  intro sz
  refine Met.ofW (cc := bytes) (maxL := maxL) (ret := some .int) hy rfl ?_
  intro p e s m args below meth c s₁ Bd hml hv
  obtain ⟨rfl, ⟨hsz, hP, hK, hD0⟩, hSt⟩ := hv
  subst hsz
  have hx := Bd.exec
  have hb := Bd.bytes
  have hr := Bd.returns
  have hts0 := atoms_spec (ws := .code y bytes maxL (some .int) :: lw_w) Bd.pre
  have hts : ∀ w ∈ lw_w, w.before av.toArray s = true := fun w hw => hts0 w (List.mem_cons_of_mem _ hw)
  have hown : s.vm.findClass y.cls = some m.cls := findClass_of_methodNamed Bd.named
  have hlocks := Bd.notSynchronized
  have hD := hD0.self (sz := s.heap.size)
  have hA : ∀ q : Nat, s.heap.size ≤ q → va_A (B T) s.heap.size q := fun q h => Or.inr h
  have hS : va_S (va_A (B T) s.heap.size) s.heap s.heap [] := va_S.rf
  have hl := lv_entry av (n := maxL) hsl
  rw [lg_entry_eq]
  rw [hlv] at hl
  exact body ((p, l, e, rm, s), (m, av.toArray, below, meth, c), (maxL, D, cI, cZ, cV), (0, 0), (va_A (B T) s.heap.size, MQ below (va_Qi (fun (r1 : Int32) (_ : Unit) => r1 = r) (fun _ => PostB D (jtys cI cZ cV) B T T' s.heap.size) (va_A (B T) s.heap.size)) av.toArray s 0 0 (va_A (B T) s.heap.size), B)) rfl rfl rfl rfl rfl rfl rfl ⟨hx, hb, hml, hown, hts, hK, hA, rfl, Nat.zero_le _, Nat.zero_le _⟩ hSt
    (fun pc lv hdg ls H locs a1 a2 a3 a4 => W.iret hx hb hr (fun t ht hW => ⟨⟨r, (), rfl, rfl, (by rw [ht]; exact a2), va_K.moved hW.alike hK, a3⟩, a4.F ht⟩) a4.2.2 hdg) _ _ _ hl hP hD hS
theorem j_callVis {σ τ : Type} {X : JX σ} {own C : String} {cc bytes : ByteArray} {rm rmc : Room} {pc index maxL n ci a : Nat} {lv : List (Nat × Value)} {st As : List Value} {S S' : σ} {y : MethodName} {ret : Option FieldType} {B' : τ → va_W} {T T' : τ} {fs : σ → List Value} {q : vw_C} {t : Nat → Nat} (hSt : Stat t X.A X.s X.s.heap) (h : OK X own cc rm) {r : Int32} (hM : CTis t X.l X.D (jtys X.cI X.cZ X.cV) y bytes maxL ret rmc B' (.ref a :: As) T r T') (hB : B' T = X.B S) (hB' : B' T' = X.B S') (q1 : Cond.methodLink own index y ∈ lw_w) (cw : CWv C y bytes maxL ret n) (hO : vO X.B a ci fs) (hc : vwCl[ci]? = some q) (hC : q.1 = C) (hn : As.length = n) (hroom : RoomOk rm rmc maxL) (st0 : List Value) (hst0 : st0 = As.reverse ++ .ref a :: st) (hst : (st.map fun v => v.category).sum ≤ 8) (hdg : decode cc pc = .ok (.invokevirtual index, 3)) (kk : J X (pc + 3) lv (.int r :: st) S') : J X pc lv st0 S := by
  obtain ⟨hx, hb, hml, hown, hts, hK, hA, hR, hkc, hks⟩ := h
  subst hst0
  intro ls H locs a1 a2 a3 a4
  have hFc := freeB (T := T) hA hB a3 a4
  refine va_calli (va_runV (As := As) (rest := st) ⟨hx, hb, hml, hown, hts⟩ (hM H.size) (cwV n hts (gi_v q1 cw) rfl hroom.1 hroom.2.1 cw.2.2.2.2 (by rw [hR]; exact hroom.2.2)) ⟨fun a U g mk q => ⟨(PreB.blind (av := .ref _ :: As) a U g mk ⟨q.1, q.2.1⟩).1, (PreB.blind (av := .ref _ :: As) a U g mk ⟨q.1, q.2.1⟩).2, Stat.moved (u := U) (U := U.calling g mk a) (Vm.Alike.refl U.vm) q.2.2⟩, by obtain ⟨pos, hpos⟩ := hO S; rw [← hC]; exact va_recv hK a2 hc hpos, fun U hU hW => ⟨rfl, preB hB hK a2 a3 U hU hW, by rw [hU]; exact ((hSt.moved hW.alike).kept a4.2.1).narrow hFc⟩⟩ rfl hn a1.1 rfl (lv_room hst) hdg ⟨by rw [hR]; exact hkc, by rw [hR]; exact hks⟩) a4 (fun q _ h => hFc q h) hFc (fun r1 u t H1 locs1 ht hvm hw hB1 hz1 hk1 hS1 => ?_)
  obtain ⟨hP1, hK1, hD1⟩ := hB1
  subst hw
  rw [ht] at hP1
  exact kk ls H1 locs1 a1 (by rw [← hB']; exact hP1) (by rw [← hB']; exact hD1.weaken (fun k q _ hq => hFc q.1 hq)) hS1
end
section
/-! THE LAW'S ROWS: d 0, ho 1, go 2, lo 3, ba 4, li 5 -/
def llen : Nat → Nat
  | 0 => 20 | 1 => 48 | 2 => 16 | 3 => 30 | 4 => 8 | _ => 12
abbrev LQ : Type := PS × VS
def IsLL {σ : Type} (get : σ → VS) (put : σ → VS → σ) (cI : ClassId) (B : σ → va_W) (al : Nat → Nat) : Prop := ∀ k, k < 6 → vAp cI B (al k) (llen k) (fun S => get S k) (fun S g => put S (va_up (get S) k g))
abbrev IsLaw (cI : ClassId) (B : VS → va_W) (al : Nat → Nat) : Prop := IsLL (fun v => v) (fun _ v => v) cI B al
theorem IsLL.down {cI : ClassId} {B : LQ → va_W} {al : Nat → Nat} (h : IsLL (fun S : LQ => S.2) (fun S v => (S.1, v)) cI B al) (P : PS) : IsLaw cI (fun R => B (P, R)) al := fun k hk v g => h k hk (P, v) g
def IsLP (cI cZ cV : ClassId) (B : LQ → va_W) (AD : Nat → Nat → Nat) (al : Nat → Nat) : Prop := (∀ R, IsPool cI cZ cV (fun S => B (S, R)) AD) ∧ IsLL (fun S : LQ => S.2) (fun S v => (S.1, v)) cI B al
theorem IsLP.o {cI cZ cV : ClassId} {B : LQ → va_W} {AD : Nat → Nat → Nat} {al : Nat → Nat} (h : IsLP cI cZ cV B AD al) : vO B (AD 12 7) 6 (fun _ => fsP AD) := fun Z => (h.1 Z.2).2.2.2.2.2.1 Z.1
section JL
variable {σ ρ : Type} {X : JX σ} {own : String} {cc : ByteArray} {rm : Room} {pc : Nat} {lv : List (Nat × Value)} {st : List Value} {S : σ}
theorem j_iushr (h : OK X own cc rm) {x y : Int32} (hdg : decode cc pc = .ok (.iushr, 1)) (k : J X (pc + 1) lv (.int ((x.toUInt32 >>> (y.toUInt32 &&& Int32.toUInt32 31)).toInt32) :: st) S) : J X pc lv (.int y :: .int x :: st) S := fun ls H locs a1 a2 a3 a4 => lv_iushr h.1 h.2.1 hdg rfl (k ls H locs a1 a2 a3 a4)
theorem j_dup_x2 (h : OK X own cc rm) {v u w : Value} (hv : v.category = 1) (hu : u.category = 1) (hw : w.category = 1) (hdg : decode cc pc = .ok (.dup_x2, 1)) (k : J X (pc + 1) lv (v :: u :: w :: v :: st) S) : J X pc lv (v :: u :: w :: st) S := fun ls H locs a1 a2 a3 a4 => lv_dup_x2 h.1 h.2.1 hdg hv hu hw (k ls H locs a1 a2 a3 a4)
end JL
def CTzs {τ : Type} (t : Nat → Nat) (l : Launch) (D : va_G) (tys : List (ClassId × FieldType)) (y : MethodName) (bytes : ByteArray) (maxL : Nat) (ret : Option FieldType) (rm : Room) (B : τ → va_W) (av : List Value) (T : τ) (r : Int32) (T' : τ) : Prop := ∀ sz, Met l y (.code y bytes maxL ret :: lw_w) rm (va_Pc av (fun U => PreB D tys B T sz U ∧ Stat t (va_A (B T) sz) U U.heap)) (va_Qi (fun (r1 : Int32) (_ : Unit) => r1 = r ∧ narrow .boolean (.int r) = .int r) (fun _ => PostB D tys B T T' sz) (va_A (B T) sz)) 0 0 (va_A (B T) sz)
set_option maxHeartbeats 1000000 in
theorem CTzs.of {t : Nat → Nat} {τ : Type} {l : Launch} {D : va_G} {cI cZ cV : ClassId} {y : MethodName} {bytes : ByteArray} {maxL : Nat} {rm : Room} {B : τ → va_W} {av : List Value} {T T' : τ} {r : Int32} (lv0 : List (Nat × Value)) (hlv : lv_args 0 av = lv0) (hsl : (lg_sl av).length ≤ maxL) (hy : plainName y.cls = true) (hrm : rm.cells = 0 ∧ rm.slots = 0) 
    (body : ∀ X : JX τ, X.l = l → X.D = D → X.cI = cI → X.cZ = cZ → X.cV = cV → X.B = B → X.nL = maxL → OK X y.cls bytes rm → Stat t X.A X.s X.s.heap → EXz X bytes r T' → J X 0 lv0 [] T) : CTzs t l D (jtys cI cZ cV) y bytes maxL (some .boolean) rm B av T r T' := by
  intro sz
  refine Met.ofW (cc := bytes) (maxL := maxL) (ret := some .boolean) hy rfl ?_
  intro p e s m args below meth c s₁ Bd hml hv
  obtain ⟨rfl, ⟨hsz, hP, hK, hD0⟩, hSt⟩ := hv
  subst hsz
  have hx := Bd.exec
  have hb := Bd.bytes
  have hr := Bd.returns
  have hts0 := atoms_spec (ws := .code y bytes maxL (some .boolean) :: lw_w) Bd.pre
  have hts : ∀ w ∈ lw_w, w.before av.toArray s = true := fun w hw => hts0 w (List.mem_cons_of_mem _ hw)
  have hown : s.vm.findClass y.cls = some m.cls := findClass_of_methodNamed Bd.named
  have hlocks := Bd.notSynchronized
  have hD := hD0.self (sz := s.heap.size)
  have hA : ∀ q : Nat, s.heap.size ≤ q → va_A (B T) s.heap.size q := fun q h => Or.inr h
  have hS : va_S (va_A (B T) s.heap.size) s.heap s.heap [] := va_S.rf
  have hl := lv_entry av (n := maxL) hsl
  rw [lg_entry_eq]
  rw [hlv] at hl
  exact body ((p, l, e, rm, s), (m, av.toArray, below, meth, c), (maxL, D, cI, cZ, cV), (0, 0), (va_A (B T) s.heap.size, MQ below (va_Qi (fun (r1 : Int32) (_ : Unit) => r1 = r ∧ narrow .boolean (.int r) = .int r) (fun _ => PostB D (jtys cI cZ cV) B T T' s.heap.size) (va_A (B T) s.heap.size)) av.toArray s 0 0 (va_A (B T) s.heap.size), B)) rfl rfl rfl rfl rfl rfl rfl ⟨hx, hb, hml, hown, hts, hK, hA, rfl, Nat.zero_le _, Nat.zero_le _⟩ hSt
    (fun pc lv hdg hnr ls H locs a1 a2 a3 a4 => W.zret hx hb hr hnr (fun t ht hW => ⟨⟨r, (), rfl, ⟨rfl, hnr⟩, (by rw [ht]; exact a2), va_K.moved hW.alike hK, a3⟩, a4.F ht⟩) a4.2.2 hdg) _ _ _ hl hP hD hS
theorem j_callSzs {σ τ : Type} {X : JX σ} {own : String} {cc bytes : ByteArray} {rm rmc : Room} {pc index maxL n : Nat} {lv : List (Nat × Value)} {st As : List Value} {S S' : σ} {y : MethodName} {ret : Option FieldType} {B' : τ → va_W} {T T' : τ} {t : Nat → Nat} (hSt : Stat t X.A X.s X.s.heap) (h : OK X own cc rm) {r : Int32} (hM : CTzs t X.l X.D (jtys X.cI X.cZ X.cV) y bytes maxL ret rmc B' As T r T') (hB : B' T = X.B S) (hB' : B' T' = X.B S') (q1 : Cond.methodLink own index y ∈ lw_w) (cw : CWs y bytes maxL ret n) (hn : As.length = n) (hroom : RoomOk rm rmc maxL) (st0 : List Value) (hst0 : st0 = As.reverse ++ st) (hst : (st.map fun v => v.category).sum ≤ 8) (hdg : decode cc pc = .ok (.invokestatic index, 3)) (kk : narrow .boolean (.int r) = .int r → J X (pc + 3) lv (.int r :: st) S') : J X pc lv st0 S := by
  obtain ⟨hx, hb, hml, hown, hts, hK, hA, hR, hkc, hks⟩ := h
  subst hst0
  intro ls H locs a1 a2 a3 a4
  have hFc := freeB (T := T) hA hB a3 a4
  refine va_calli (va_runS (As := As) (rest := st) ⟨hx, hb, hml, hown, hts⟩ (hM H.size) (va_cwS n hts (gi_s q1 cw) rfl hroom.1 hroom.2.1 cw.2.2.2 (by rw [hR]; exact hroom.2.2)) ⟨fun a U g mk q => ⟨(PreB.blind (av := As) a U g mk ⟨q.1, q.2.1⟩).1, (PreB.blind (av := As) a U g mk ⟨q.1, q.2.1⟩).2, Stat.moved (u := U) (U := U.calling g mk a) (Vm.Alike.refl U.vm) q.2.2⟩, fun U hU hW => ⟨rfl, preB hB hK a2 a3 U hU hW, by rw [hU]; exact ((hSt.moved hW.alike).kept a4.2.1).narrow hFc⟩⟩ rfl hn a1.1 rfl (lv_room hst) hdg ⟨by rw [hR]; exact hkc, by rw [hR]; exact hks⟩) a4 (fun q _ h => hFc q h) hFc (fun r1 u t H1 locs1 ht hvm hw hB1 hz1 hk1 hS1 => ?_)
  obtain ⟨hP1, hK1, hD1⟩ := hB1
  obtain ⟨hw, hz⟩ := hw
  subst hw
  rw [ht] at hP1
  exact kk hz ls H1 locs1 a1 (by rw [← hB']; exact hP1) (by rw [← hB']; exact hD1.weaken (fun k q _ hq => hFc q.1 hq)) hS1
/-- the script, that nobody writes -/
def Scr (b L : Nat) (xs : Nat → Int32) (A : Nat → Prop) (U : State) (H : Heap) : Prop := va_X b L xs U H ∧ b < H.size ∧ ¬ A b
theorem Scr.moved {b L : Nat} {xs : Nat → Int32} {A : Nat → Prop} {u U : State} {H : Heap} (hvm : u.vm.Alike U.vm) (h : Scr b L xs A u H) : Scr b L xs A U H := ⟨h.1.moved hvm, h.2.1, h.2.2⟩
theorem Scr.kept {b L : Nat} {xs : Nat → Int32} {A : Nat → Prop} {U : State} {H H1 : Heap} (h : Scr b L xs A U H) (hq : ∀ a : Nat, a < H.size → ¬ A a → H1[a]? = H[a]?) : Scr b L xs A U H1 := by
  have e := hq b h.2.1 h.2.2
  refine ⟨h.1.kept e, ?_, h.2.2⟩
  obtain ⟨scr, h1, -⟩ := h.1
  rw [← e] at h1
  exact (Array.getElem?_eq_some_iff.mp h1).1
theorem Scr.narrow {b L : Nat} {xs : Nat → Int32} {A B : Nat → Prop} {U : State} {H : Heap} (h : Scr b L xs A U H) (hq : ∀ q, B q → A q) : Scr b L xs B U H := ⟨h.1, h.2.1, fun z => h.2.2 (hq _ z)⟩
section JL2
variable {σ ρ : Type} {X : JX σ} {own : String} {cc : ByteArray} {rm : Room} {pc b L : Nat} {xs : Nat → Int32} {lv : List (Nat × Value)} {st : List Value} {S : σ}
theorem j_sldG (h : OK X own cc rm) (hS : Scr b L xs X.A X.s X.s.heap) {i : Int32} (hin : inb i L = true) (hdg : decode cc pc = .ok (.iaload, 1)) (kk : J X (pc + 1) lv (.int (xs i.toNatClampNeg) :: st) S) : J X pc lv (.int i :: .ref b :: st) S := fun ls H locs a1 a2 a3 a4 => va_sld h.1 h.2.1 hS.1 hS.2.1 hS.2.2 a4 (inb_vp hin) hdg (kk ls H locs a1 a2 a3 a4)
theorem j_slenG (h : OK X own cc rm) (hS : Scr b L xs X.A X.s X.s.heap) (hdg : decode cc pc = .ok (.arraylength, 1)) (kk : J X (pc + 1) lv (.int (Int32.ofNat L) :: st) S) : J X pc lv (.ref b :: st) S := fun ls H locs a1 a2 a3 a4 => va_slen h.1 h.2.1 hS.1 hS.2.1 hS.2.2 a4 hdg (kk ls H locs a1 a2 a3 a4)
end JL2
def f_L_cell (sc : Nat × (Nat → Int32)) (p2 : Int32) : Option (Int32) := if Int32.ofNat sc.1 ≤ p2 then some ((1541459225 : Int32) * (p2 + (97 : Int32))) else bnd (inb p2 sc.1) (some (sc.2 p2.toNatClampNeg))
def CTix {τ : Type} (b L : Nat) (xs : Nat → Int32) (l : Launch) (D : va_G) (tys : List (ClassId × FieldType)) (y : MethodName) (bytes : ByteArray) (maxL : Nat) (ret : Option FieldType) (rm : Room) (B : τ → va_W) (av : List Value) (T : τ) (r : Int32) (T' : τ) : Prop := ∀ sz, Met l y (.code y bytes maxL ret :: lw_w) rm (va_Pc av (fun U => PreB D tys B T sz U ∧ Scr b L xs (va_A (B T) sz) U U.heap)) (va_Qi (fun (r1 : Int32) (_ : Unit) => r1 = r) (fun _ => PostB D tys B T T' sz) (va_A (B T) sz)) 0 0 (va_A (B T) sz)
set_option maxHeartbeats 1000000 in
theorem CTix.of {b L : Nat} {xs : Nat → Int32} {τ : Type} {l : Launch} {D : va_G} {cI cZ cV : ClassId} {y : MethodName} {bytes : ByteArray} {maxL : Nat} {rm : Room} {B : τ → va_W} {av : List Value} {T T' : τ} {r : Int32} (lv0 : List (Nat × Value)) (hlv : lv_args 0 av = lv0) (hsl : (lg_sl av).length ≤ maxL) (hy : plainName y.cls = true) (hrm : rm.cells = 0 ∧ rm.slots = 0) 
    (body : ∀ X : JX τ, X.l = l → X.D = D → X.cI = cI → X.cZ = cZ → X.cV = cV → X.B = B → X.nL = maxL → OK X y.cls bytes rm → Scr b L xs X.A X.s X.s.heap → EXi X bytes r T' → J X 0 lv0 [] T) : CTix b L xs l D (jtys cI cZ cV) y bytes maxL (some .int) rm B av T r T' := by
  intro sz
  refine Met.ofW (cc := bytes) (maxL := maxL) (ret := some .int) hy rfl ?_
  intro p e s m args below meth c s₁ Bd hml hv
  obtain ⟨rfl, ⟨hsz, hP, hK, hD0⟩, hSc⟩ := hv
  subst hsz
  have hx := Bd.exec
  have hb := Bd.bytes
  have hr := Bd.returns
  have hts0 := atoms_spec (ws := .code y bytes maxL (some .int) :: lw_w) Bd.pre
  have hts : ∀ w ∈ lw_w, w.before av.toArray s = true := fun w hw => hts0 w (List.mem_cons_of_mem _ hw)
  have hown : s.vm.findClass y.cls = some m.cls := findClass_of_methodNamed Bd.named
  have hlocks := Bd.notSynchronized
  have hD := hD0.self (sz := s.heap.size)
  have hA : ∀ q : Nat, s.heap.size ≤ q → va_A (B T) s.heap.size q := fun q h => Or.inr h
  have hS : va_S (va_A (B T) s.heap.size) s.heap s.heap [] := va_S.rf
  have hl := lv_entry av (n := maxL) hsl
  rw [lg_entry_eq]
  rw [hlv] at hl
  exact body ((p, l, e, rm, s), (m, av.toArray, below, meth, c), (maxL, D, cI, cZ, cV), (0, 0), (va_A (B T) s.heap.size, MQ below (va_Qi (fun (r1 : Int32) (_ : Unit) => r1 = r) (fun _ => PostB D (jtys cI cZ cV) B T T' s.heap.size) (va_A (B T) s.heap.size)) av.toArray s 0 0 (va_A (B T) s.heap.size), B)) rfl rfl rfl rfl rfl rfl rfl ⟨hx, hb, hml, hown, hts, hK, hA, rfl, Nat.zero_le _, Nat.zero_le _⟩ hSc
    (fun pc lv hdg ls H locs a1 a2 a3 a4 => W.iret hx hb hr (fun t ht hW => ⟨⟨r, (), rfl, rfl, (by rw [ht]; exact a2), va_K.moved hW.alike hK, a3⟩, a4.F ht⟩) a4.2.2 hdg) _ _ _ hl hP hD hS
theorem j_callSix {σ τ : Type} {X : JX σ} {own : String} {cc bytes : ByteArray} {rm rmc : Room} {pc index maxL n : Nat} {lv : List (Nat × Value)} {st As : List Value} {S S' : σ} {y : MethodName} {ret : Option FieldType} {B' : τ → va_W} {T T' : τ} {b L : Nat} {xs : Nat → Int32} (hSc : Scr b L xs X.A X.s X.s.heap) (h : OK X own cc rm) {r : Int32} (hM : CTix b L xs X.l X.D (jtys X.cI X.cZ X.cV) y bytes maxL ret rmc B' As T r T') (hB : B' T = X.B S) (hB' : B' T' = X.B S') (q1 : Cond.methodLink own index y ∈ lw_w) (cw : CWs y bytes maxL ret n) (hn : As.length = n) (hroom : RoomOk rm rmc maxL) (st0 : List Value) (hst0 : st0 = As.reverse ++ st) (hst : (st.map fun v => v.category).sum ≤ 8) (hdg : decode cc pc = .ok (.invokestatic index, 3)) (kk : J X (pc + 3) lv (.int r :: st) S') : J X pc lv st0 S := by
  obtain ⟨hx, hb, hml, hown, hts, hK, hA, hR, hkc, hks⟩ := h
  subst hst0
  intro ls H locs a1 a2 a3 a4
  have hFc := freeB (T := T) hA hB a3 a4
  refine va_calli (va_runS (As := As) (rest := st) ⟨hx, hb, hml, hown, hts⟩ (hM H.size) (va_cwS n hts (gi_s q1 cw) rfl hroom.1 hroom.2.1 cw.2.2.2 (by rw [hR]; exact hroom.2.2)) ⟨fun a U g mk q => ⟨(PreB.blind (av := As) a U g mk ⟨q.1, q.2.1⟩).1, (PreB.blind (av := As) a U g mk ⟨q.1, q.2.1⟩).2, Scr.moved (u := U) (U := U.calling g mk a) (Vm.Alike.refl U.vm) q.2.2⟩, fun U hU hW => ⟨rfl, preB hB hK a2 a3 U hU hW, by rw [hU]; exact ((hSc.moved hW.alike).kept a4.2.1).narrow hFc⟩⟩ rfl hn a1.1 rfl (lv_room hst) hdg ⟨by rw [hR]; exact hkc, by rw [hR]; exact hks⟩) a4 (fun q _ h => hFc q h) hFc (fun r1 u t H1 locs1 ht hvm hw hB1 hz1 hk1 hS1 => ?_)
  obtain ⟨hP1, hK1, hD1⟩ := hB1
  subst hw
  rw [ht] at hP1
  exact kk ls H1 locs1 a1 (by rw [← hB']; exact hP1) (by rw [← hB']; exact hD1.weaken (fun k q _ hq => hFc q.1 hq)) hS1
end
