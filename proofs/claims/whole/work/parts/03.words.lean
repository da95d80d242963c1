/-! every word of the tables, by its place -/
def lw_w : List Cond := lw_tbl.filter goodWord
theorem lw_w_in : ∀ w ∈ lw_w, w ∈ lw_tbl := fun w h => (List.mem_filter.mp h).1
theorem lw_gi : GoodIn lw_w lw_w := fun w hw => ⟨hw, good_of_word (List.mem_filter.mp hw).2⟩
theorem tb1 : ∀ w ∈ tables_1_1, goodWord w = true → w ∈ lw_w := fun _ h hg => List.mem_filter.mpr ⟨List.mem_append_right _ (List.mem_append_left _ h), hg⟩
theorem tb2 : ∀ w ∈ tables_1_2, goodWord w = true → w ∈ lw_w := fun _ h hg => List.mem_filter.mpr ⟨List.mem_append_right _ (List.mem_append_right _ (List.mem_append_left _ h)), hg⟩
theorem tb3 : ∀ w ∈ tables_1_3, goodWord w = true → w ∈ lw_w := fun _ h hg => List.mem_filter.mpr ⟨List.mem_append_right _ (List.mem_append_right _ (List.mem_append_right _ (List.mem_append_left _ h))), hg⟩
theorem tb4 : ∀ w ∈ tables_1_4, goodWord w = true → w ∈ lw_w := fun _ h hg => List.mem_filter.mpr ⟨List.mem_append_right _ (List.mem_append_right _ (List.mem_append_right _ (List.mem_append_right _ (List.mem_append_left _ h)))), hg⟩
theorem tb5 : ∀ w ∈ tables_1_5, goodWord w = true → w ∈ lw_w := fun _ h hg => List.mem_filter.mpr ⟨List.mem_append_right _ (List.mem_append_right _ (List.mem_append_right _ (List.mem_append_right _ (List.mem_append_right _ (h))))), hg⟩
theorem q1_12 : (Cond.classLink RL 7 RX6 : Cond) ∈ lw_w := tb1 _ (List.mem_of_getElem? (i := 12) rfl) rfl
theorem q1_13 : (Cond.instantiable RX6 6 : Cond) ∈ lw_w := tb1 _ (List.mem_of_getElem? (i := 13) rfl) rfl
theorem q1_1 : (Cond.initialized RX6 : Cond) ∈ lw_w := tb1 _ (List.mem_of_getElem? (i := 1) rfl) rfl
theorem q4_18 : (Cond.classLink RL 10 RX7 : Cond) ∈ lw_w := tb4 _ (List.mem_of_getElem? (i := 18) rfl) rfl
theorem q4_19 : (Cond.instantiable RX7 16 : Cond) ∈ lw_w := tb4 _ (List.mem_of_getElem? (i := 19) rfl) rfl
theorem q1_8 : (Cond.initialized RX7 : Cond) ∈ lw_w := tb1 _ (List.mem_of_getElem? (i := 8) rfl) rfl
theorem q1_14 : (Cond.methodLink RL 9 yX6_init : Cond) ∈ lw_w := tb1 _ (List.mem_of_getElem? (i := 14) rfl) rfl
theorem q1_15 : (Cond.instanceMethod yX6_init : Cond) ∈ lw_w := tb1 _ (List.mem_of_getElem? (i := 15) rfl) rfl
theorem q1_16 : (Cond.code yX6_init cX6_init 2 none : Cond) ∈ lw_w := tb1 _ (List.mem_of_getElem? (i := 16) rfl) rfl
theorem q1_17 : (Cond.methodLink RX6 1 objectInit : Cond) ∈ lw_w := tb1 _ (List.mem_of_getElem? (i := 17) rfl) rfl
theorem q1_18 : (Cond.instanceMethod objectInit : Cond) ∈ lw_w := tb1 _ (List.mem_of_getElem? (i := 18) rfl) rfl
theorem q1_19 : (Cond.code objectInit ⟨#[0xb1]⟩ 1 none : Cond) ∈ lw_w := tb1 _ (List.mem_of_getElem? (i := 19) rfl) rfl
theorem q1_20 : (Cond.classLink RX6 7 RX5 : Cond) ∈ lw_w := tb1 _ (List.mem_of_getElem? (i := 20) rfl) rfl
theorem q1_21 : (Cond.instantiable RX5 11 : Cond) ∈ lw_w := tb1 _ (List.mem_of_getElem? (i := 21) rfl) rfl
theorem q1_2 : (Cond.initialized RX5 : Cond) ∈ lw_w := tb1 _ (List.mem_of_getElem? (i := 2) rfl) rfl
theorem q1_213 : (Cond.fieldLink RX6 10 "MeterPool" "now" "LMeterPool$Village;" : Cond) ∈ lw_w := tb1 _ (List.mem_of_getElem? (i := 213) rfl) rfl
theorem q1_214 : (Cond.fieldLink RX6 16 "MeterPool" "ahead" "LMeterPool$Village;" : Cond) ∈ lw_w := tb1 _ (List.mem_of_getElem? (i := 214) rfl) rfl
theorem q1_166 : (Cond.classLink RX6 19 RX1 : Cond) ∈ lw_w := tb1 _ (List.mem_of_getElem? (i := 166) rfl) rfl
theorem q1_167 : (Cond.instantiable RX1 2 : Cond) ∈ lw_w := tb1 _ (List.mem_of_getElem? (i := 167) rfl) rfl
theorem q1_6 : (Cond.initialized RX1 : Cond) ∈ lw_w := tb1 _ (List.mem_of_getElem? (i := 6) rfl) rfl
theorem q1_215 : (Cond.fieldLink RX6 22 "MeterPool" "history" "LMeterPool$History;" : Cond) ∈ lw_w := tb1 _ (List.mem_of_getElem? (i := 215) rfl) rfl
theorem q1_216 : (Cond.fieldLink RX6 26 "MeterPool" "images" "[LMeterPool$Village;" : Cond) ∈ lw_w := tb1 _ (List.mem_of_getElem? (i := 216) rfl) rfl
theorem q1_212 : (Cond.arrayClass .boolean : Cond) ∈ lw_w := tb1 _ (List.mem_of_getElem? (i := 212) rfl) rfl
theorem q1_217 : (Cond.fieldLink RX6 30 "MeterPool" "kept" "[Z" : Cond) ∈ lw_w := tb1 _ (List.mem_of_getElem? (i := 217) rfl) rfl
theorem q1_183 : (Cond.classLink RX6 34 RX3 : Cond) ∈ lw_w := tb1 _ (List.mem_of_getElem? (i := 183) rfl) rfl
theorem q1_184 : (Cond.instantiable RX3 6 : Cond) ∈ lw_w := tb1 _ (List.mem_of_getElem? (i := 184) rfl) rfl
theorem q1_7 : (Cond.initialized RX3 : Cond) ∈ lw_w := tb1 _ (List.mem_of_getElem? (i := 7) rfl) rfl
theorem q1_218 : (Cond.fieldLink RX6 37 "MeterPool" "text" "LMeterPool$ListText;" : Cond) ∈ lw_w := tb1 _ (List.mem_of_getElem? (i := 218) rfl) rfl
theorem q1_22 : (Cond.methodLink RX6 9 yX5_init : Cond) ∈ lw_w := tb1 _ (List.mem_of_getElem? (i := 22) rfl) rfl
theorem q1_23 : (Cond.instanceMethod yX5_init : Cond) ∈ lw_w := tb1 _ (List.mem_of_getElem? (i := 23) rfl) rfl
theorem q1_24 : (Cond.code yX5_init cX5_init 1 none : Cond) ∈ lw_w := tb1 _ (List.mem_of_getElem? (i := 24) rfl) rfl
theorem q1_25 : (Cond.methodLink RX5 3 objectInit : Cond) ∈ lw_w := tb1 _ (List.mem_of_getElem? (i := 25) rfl) rfl
theorem q1_26 : (Cond.classLink RX5 9 RX2 : Cond) ∈ lw_w := tb1 _ (List.mem_of_getElem? (i := 26) rfl) rfl
theorem q1_27 : (Cond.instantiable RX2 11 : Cond) ∈ lw_w := tb1 _ (List.mem_of_getElem? (i := 27) rfl) rfl
theorem q1_3 : (Cond.initialized RX2 : Cond) ∈ lw_w := tb1 _ (List.mem_of_getElem? (i := 3) rfl) rfl
theorem q1_122 : (Cond.fieldLink RX5 12 "MeterPool$Village" "houses" "LMeterPool$Houses;" : Cond) ∈ lw_w := tb1 _ (List.mem_of_getElem? (i := 122) rfl) rfl
theorem q1_78 : (Cond.classLink RX5 18 RX4 : Cond) ∈ lw_w := tb1 _ (List.mem_of_getElem? (i := 78) rfl) rfl
theorem q1_79 : (Cond.instantiable RX4 4 : Cond) ∈ lw_w := tb1 _ (List.mem_of_getElem? (i := 79) rfl) rfl
theorem q1_4 : (Cond.initialized RX4 : Cond) ∈ lw_w := tb1 _ (List.mem_of_getElem? (i := 4) rfl) rfl
theorem q1_124 : (Cond.fieldLink RX5 21 "MeterPool$Village" "loans" "LMeterPool$Loans;" : Cond) ∈ lw_w := tb1 _ (List.mem_of_getElem? (i := 124) rfl) rfl
theorem q1_103 : (Cond.classLink RX5 25 RX0 : Cond) ∈ lw_w := tb1 _ (List.mem_of_getElem? (i := 103) rfl) rfl
theorem q1_104 : (Cond.instantiable RX0 4 : Cond) ∈ lw_w := tb1 _ (List.mem_of_getElem? (i := 104) rfl) rfl
theorem q1_5 : (Cond.initialized RX0 : Cond) ∈ lw_w := tb1 _ (List.mem_of_getElem? (i := 5) rfl) rfl
theorem q1_126 : (Cond.fieldLink RX5 28 "MeterPool$Village" "batteries" "LMeterPool$Batteries;" : Cond) ∈ lw_w := tb1 _ (List.mem_of_getElem? (i := 126) rfl) rfl
theorem q1_77 : (Cond.arrayClass .int : Cond) ∈ lw_w := tb1 _ (List.mem_of_getElem? (i := 77) rfl) rfl
theorem q1_128 : (Cond.fieldLink RX5 32 "MeterPool$Village" "settings" "[I" : Cond) ∈ lw_w := tb1 _ (List.mem_of_getElem? (i := 128) rfl) rfl
theorem q1_130 : (Cond.fieldLink RX5 36 "MeterPool$Village" "accounts" "[I" : Cond) ∈ lw_w := tb1 _ (List.mem_of_getElem? (i := 130) rfl) rfl
theorem q1_132 : (Cond.fieldLink RX5 39 "MeterPool$Village" "shedHours" "[I" : Cond) ∈ lw_w := tb1 _ (List.mem_of_getElem? (i := 132) rfl) rfl
theorem q1_134 : (Cond.fieldLink RX5 42 "MeterPool$Village" "shedLatest" "[I" : Cond) ∈ lw_w := tb1 _ (List.mem_of_getElem? (i := 134) rfl) rfl
theorem q1_136 : (Cond.fieldLink RX5 45 "MeterPool$Village" "list" "[I" : Cond) ∈ lw_w := tb1 _ (List.mem_of_getElem? (i := 136) rfl) rfl
theorem q1_137 : (Cond.fieldLink RX5 48 "MeterPool$Village" "listSize" "I" : Cond) ∈ lw_w := tb1 _ (List.mem_of_getElem? (i := 137) rfl) rfl
theorem q1_139 : (Cond.fieldLink RX5 52 "MeterPool$Village" "hour" "I" : Cond) ∈ lw_w := tb1 _ (List.mem_of_getElem? (i := 139) rfl) rfl
theorem q1_141 : (Cond.fieldLink RX5 55 "MeterPool$Village" "turn" "I" : Cond) ∈ lw_w := tb1 _ (List.mem_of_getElem? (i := 141) rfl) rfl
theorem q1_29 : (Cond.instanceMethod yX2_init : Cond) ∈ lw_w := tb1 _ (List.mem_of_getElem? (i := 29) rfl) rfl
theorem q1_30 : (Cond.code yX2_init cX2_init 1 none : Cond) ∈ lw_w := tb1 _ (List.mem_of_getElem? (i := 30) rfl) rfl
theorem q1_31 : (Cond.methodLink RX2 3 objectInit : Cond) ∈ lw_w := tb1 _ (List.mem_of_getElem? (i := 31) rfl) rfl
theorem q1_35 : (Cond.fieldLink RX2 9 "MeterPool$Houses" "feeder" "[I" : Cond) ∈ lw_w := tb1 _ (List.mem_of_getElem? (i := 35) rfl) rfl
theorem q1_37 : (Cond.fieldLink RX2 15 "MeterPool$Houses" "demand" "[I" : Cond) ∈ lw_w := tb1 _ (List.mem_of_getElem? (i := 37) rfl) rfl
theorem q1_40 : (Cond.fieldLink RX2 18 "MeterPool$Houses" "debt" "[I" : Cond) ∈ lw_w := tb1 _ (List.mem_of_getElem? (i := 40) rfl) rfl
theorem q1_42 : (Cond.fieldLink RX2 21 "MeterPool$Houses" "connected" "[I" : Cond) ∈ lw_w := tb1 _ (List.mem_of_getElem? (i := 42) rfl) rfl
theorem q1_43 : (Cond.fieldLink RX2 24 "MeterPool$Houses" "credit" "[I" : Cond) ∈ lw_w := tb1 _ (List.mem_of_getElem? (i := 43) rfl) rfl
theorem q1_46 : (Cond.fieldLink RX2 27 "MeterPool$Houses" "got" "[I" : Cond) ∈ lw_w := tb1 _ (List.mem_of_getElem? (i := 46) rfl) rfl
theorem q1_49 : (Cond.fieldLink RX2 30 "MeterPool$Houses" "reason" "[I" : Cond) ∈ lw_w := tb1 _ (List.mem_of_getElem? (i := 49) rfl) rfl
theorem q1_50 : (Cond.fieldLink RX2 33 "MeterPool$Houses" "gotEver" "[I" : Cond) ∈ lw_w := tb1 _ (List.mem_of_getElem? (i := 50) rfl) rfl
theorem q1_51 : (Cond.fieldLink RX2 36 "MeterPool$Houses" "could" "[I" : Cond) ∈ lw_w := tb1 _ (List.mem_of_getElem? (i := 51) rfl) rfl
theorem q1_52 : (Cond.fieldLink RX2 39 "MeterPool$Houses" "wants" "[I" : Cond) ∈ lw_w := tb1 _ (List.mem_of_getElem? (i := 52) rfl) rfl
theorem q1_81 : (Cond.instanceMethod yX4_init : Cond) ∈ lw_w := tb1 _ (List.mem_of_getElem? (i := 81) rfl) rfl
theorem q1_82 : (Cond.code yX4_init cX4_init 1 none : Cond) ∈ lw_w := tb1 _ (List.mem_of_getElem? (i := 82) rfl) rfl
theorem q1_83 : (Cond.methodLink RX4 3 objectInit : Cond) ∈ lw_w := tb1 _ (List.mem_of_getElem? (i := 83) rfl) rfl
theorem q1_87 : (Cond.fieldLink RX4 9 "MeterPool$Loans" "lender" "[I" : Cond) ∈ lw_w := tb1 _ (List.mem_of_getElem? (i := 87) rfl) rfl
theorem q1_89 : (Cond.fieldLink RX4 15 "MeterPool$Loans" "borrower" "[I" : Cond) ∈ lw_w := tb1 _ (List.mem_of_getElem? (i := 89) rfl) rfl
theorem q1_91 : (Cond.fieldLink RX4 18 "MeterPool$Loans" "owed" "[I" : Cond) ∈ lw_w := tb1 _ (List.mem_of_getElem? (i := 91) rfl) rfl
theorem q1_105 : (Cond.methodLink RX5 27 yX0_init : Cond) ∈ lw_w := tb1 _ (List.mem_of_getElem? (i := 105) rfl) rfl
theorem q1_106 : (Cond.instanceMethod yX0_init : Cond) ∈ lw_w := tb1 _ (List.mem_of_getElem? (i := 106) rfl) rfl
theorem q1_107 : (Cond.code yX0_init cX0_init 2 none : Cond) ∈ lw_w := tb1 _ (List.mem_of_getElem? (i := 107) rfl) rfl
theorem q1_108 : (Cond.methodLink RX0 3 objectInit : Cond) ∈ lw_w := tb1 _ (List.mem_of_getElem? (i := 108) rfl) rfl
theorem q1_109 : (Cond.fieldLink RX0 9 "MeterPool$Batteries" "capacity" "[I" : Cond) ∈ lw_w := tb1 _ (List.mem_of_getElem? (i := 109) rfl) rfl
theorem q1_110 : (Cond.fieldLink RX0 15 "MeterPool$Batteries" "rate" "[I" : Cond) ∈ lw_w := tb1 _ (List.mem_of_getElem? (i := 110) rfl) rfl
theorem q1_111 : (Cond.fieldLink RX0 18 "MeterPool$Batteries" "efficiency" "[I" : Cond) ∈ lw_w := tb1 _ (List.mem_of_getElem? (i := 111) rfl) rfl
theorem q1_112 : (Cond.fieldLink RX0 21 "MeterPool$Batteries" "charge" "[I" : Cond) ∈ lw_w := tb1 _ (List.mem_of_getElem? (i := 112) rfl) rfl
theorem q1_168 : (Cond.methodLink RX6 21 yX1_init : Cond) ∈ lw_w := tb1 _ (List.mem_of_getElem? (i := 168) rfl) rfl
theorem q1_169 : (Cond.instanceMethod yX1_init : Cond) ∈ lw_w := tb1 _ (List.mem_of_getElem? (i := 169) rfl) rfl
theorem q1_170 : (Cond.code yX1_init cX1_init 2 none : Cond) ∈ lw_w := tb1 _ (List.mem_of_getElem? (i := 170) rfl) rfl
theorem q1_171 : (Cond.methodLink RX1 3 objectInit : Cond) ∈ lw_w := tb1 _ (List.mem_of_getElem? (i := 171) rfl) rfl
theorem q1_172 : (Cond.classLink RX1 9 RX5 : Cond) ∈ lw_w := tb1 _ (List.mem_of_getElem? (i := 172) rfl) rfl
theorem q1_177 : (Cond.fieldLink RX1 11 "MeterPool$History" "states" "[LMeterPool$Village;" : Cond) ∈ lw_w := tb1 _ (List.mem_of_getElem? (i := 177) rfl) rfl
theorem q1_174 : (Cond.methodLink RX1 17 yX5_init : Cond) ∈ lw_w := tb1 _ (List.mem_of_getElem? (i := 174) rfl) rfl
theorem q1_186 : (Cond.instanceMethod yX3_init : Cond) ∈ lw_w := tb1 _ (List.mem_of_getElem? (i := 186) rfl) rfl
theorem q1_187 : (Cond.code yX3_init cX3_init 1 none : Cond) ∈ lw_w := tb1 _ (List.mem_of_getElem? (i := 187) rfl) rfl
theorem q1_188 : (Cond.methodLink RX3 3 objectInit : Cond) ∈ lw_w := tb1 _ (List.mem_of_getElem? (i := 188) rfl) rfl
theorem q1_191 : (Cond.fieldLink RX3 9 "MeterPool$ListText" "codes" "[I" : Cond) ∈ lw_w := tb1 _ (List.mem_of_getElem? (i := 191) rfl) rfl
theorem q1_195 : (Cond.fieldLink RX3 15 "MeterPool$ListText" "numbers" "[I" : Cond) ∈ lw_w := tb1 _ (List.mem_of_getElem? (i := 195) rfl) rfl
theorem q4_20 : (Cond.methodLink RL 12 yX7_init : Cond) ∈ lw_w := tb4 _ (List.mem_of_getElem? (i := 20) rfl) rfl
theorem q4_21 : (Cond.instanceMethod yX7_init : Cond) ∈ lw_w := tb4 _ (List.mem_of_getElem? (i := 21) rfl) rfl
theorem q4_22 : (Cond.code yX7_init cX7_init 2 none : Cond) ∈ lw_w := tb4 _ (List.mem_of_getElem? (i := 22) rfl) rfl
theorem q4_23 : (Cond.methodLink RX7 1 objectInit : Cond) ∈ lw_w := tb4 _ (List.mem_of_getElem? (i := 23) rfl) rfl
theorem q4_24 : (Cond.fieldLink RX7 7 "MeterPoolModel" "z" "[I" : Cond) ∈ lw_w := tb4 _ (List.mem_of_getElem? (i := 24) rfl) rfl
theorem q4_25 : (Cond.fieldLink RX7 13 "MeterPoolModel" "aside" "[I" : Cond) ∈ lw_w := tb4 _ (List.mem_of_getElem? (i := 25) rfl) rfl
theorem q4_27 : (Cond.fieldLink RX7 16 "MeterPoolModel" "history" "[I" : Cond) ∈ lw_w := tb4 _ (List.mem_of_getElem? (i := 27) rfl) rfl
theorem q4_29 : (Cond.fieldLink RX7 19 "MeterPoolModel" "images" "[I" : Cond) ∈ lw_w := tb4 _ (List.mem_of_getElem? (i := 29) rfl) rfl
theorem q4_31 : (Cond.fieldLink RX7 22 "MeterPoolModel" "text" "[I" : Cond) ∈ lw_w := tb4 _ (List.mem_of_getElem? (i := 31) rfl) rfl
theorem q4_32 : (Cond.fieldLink RX7 25 "MeterPoolModel" "wants" "[I" : Cond) ∈ lw_w := tb4 _ (List.mem_of_getElem? (i := 32) rfl) rfl
theorem q4_33 : (Cond.fieldLink RX7 28 "MeterPoolModel" "list" "[I" : Cond) ∈ lw_w := tb4 _ (List.mem_of_getElem? (i := 33) rfl) rfl
theorem q1_232 : (Cond.methodLink RL 13 yX6_addHouse : Cond) ∈ lw_w := tb1 _ (List.mem_of_getElem? (i := 232) rfl) rfl
theorem q1_233 : (Cond.instanceMethod yX6_addHouse : Cond) ∈ lw_w := tb1 _ (List.mem_of_getElem? (i := 233) rfl) rfl
theorem q1_234 : (Cond.selects RX6 yX6_addHouse yX6_addHouse : Cond) ∈ lw_w := tb1 _ (List.mem_of_getElem? (i := 234) rfl) rfl
theorem q1_235 : (Cond.code yX6_addHouse cX6_addHouse 3 (some .int) : Cond) ∈ lw_w := tb1 _ (List.mem_of_getElem? (i := 235) rfl) rfl
theorem q1_239 : (Cond.constant RX6 45 (-1000002) : Cond) ∈ lw_w := tb1 _ (List.mem_of_getElem? (i := 239) rfl) rfl
theorem q1_123 : (Cond.fieldLink RX6 46 "MeterPool$Village" "houses" "LMeterPool$Houses;" : Cond) ∈ lw_w := tb1 _ (List.mem_of_getElem? (i := 123) rfl) rfl
theorem q1_33 : (Cond.fieldLink RX6 50 "MeterPool$Houses" "size" "I" : Cond) ∈ lw_w := tb1 _ (List.mem_of_getElem? (i := 33) rfl) rfl
theorem q2_0 : (Cond.constant RX6 56 (-1000004) : Cond) ∈ lw_w := tb2 _ (List.mem_of_getElem? (i := 0) rfl) rfl
theorem q1_236 : (Cond.methodLink RX6 41 yX6_within : Cond) ∈ lw_w := tb1 _ (List.mem_of_getElem? (i := 236) rfl) rfl
theorem q1_237 : (Cond.static yX6_within : Cond) ∈ lw_w := tb1 _ (List.mem_of_getElem? (i := 237) rfl) rfl
theorem q1_238 : (Cond.code yX6_within cX6_within 3 (some .boolean) : Cond) ∈ lw_w := tb1 _ (List.mem_of_getElem? (i := 238) rfl) rfl
theorem q2_1 : (Cond.methodLink RX6 57 yX1_record : Cond) ∈ lw_w := tb2 _ (List.mem_of_getElem? (i := 1) rfl) rfl
theorem q2_2 : (Cond.instanceMethod yX1_record : Cond) ∈ lw_w := tb2 _ (List.mem_of_getElem? (i := 2) rfl) rfl
theorem q2_3 : (Cond.selects RX1 yX1_record yX1_record : Cond) ∈ lw_w := tb2 _ (List.mem_of_getElem? (i := 3) rfl) rfl
theorem q2_4 : (Cond.code yX1_record cX1_record 2 none : Cond) ∈ lw_w := tb2 _ (List.mem_of_getElem? (i := 4) rfl) rfl
theorem q1_175 : (Cond.fieldLink RX1 18 "MeterPool$History" "size" "I" : Cond) ∈ lw_w := tb1 _ (List.mem_of_getElem? (i := 175) rfl) rfl
theorem q2_5 : (Cond.methodLink RX1 22 yX1_dropOldest : Cond) ∈ lw_w := tb2 _ (List.mem_of_getElem? (i := 5) rfl) rfl
theorem q2_7 : (Cond.instanceMethod yX1_dropOldest : Cond) ∈ lw_w := tb2 _ (List.mem_of_getElem? (i := 7) rfl) rfl
theorem qs0 : (Cond.selects RX1 yX1_dropOldest yX1_dropOldest : Cond) ∈ lw_w := List.mem_filter.mpr ⟨List.mem_append_left _ (List.mem_of_getElem? (i := 0) rfl), rfl⟩
theorem q2_8 : (Cond.code yX1_dropOldest cX1_dropOldest 3 none : Cond) ∈ lw_w := tb2 _ (List.mem_of_getElem? (i := 8) rfl) rfl
theorem q2_9 : (Cond.methodLink RX1 25 yX5_copy : Cond) ∈ lw_w := tb2 _ (List.mem_of_getElem? (i := 9) rfl) rfl
theorem q2_10 : (Cond.instanceMethod yX5_copy : Cond) ∈ lw_w := tb2 _ (List.mem_of_getElem? (i := 10) rfl) rfl
theorem q2_11 : (Cond.selects RX5 yX5_copy yX5_copy : Cond) ∈ lw_w := tb2 _ (List.mem_of_getElem? (i := 11) rfl) rfl
theorem q2_12 : (Cond.code yX5_copy cX5_copy 2 none : Cond) ∈ lw_w := tb2 _ (List.mem_of_getElem? (i := 12) rfl) rfl
theorem q2_30 : (Cond.methodLink RX5 68 arraycopyName : Cond) ∈ lw_w := tb2 _ (List.mem_of_getElem? (i := 30) rfl) rfl
theorem q2_19 : (Cond.native arraycopyName : Cond) ∈ lw_w := tb2 _ (List.mem_of_getElem? (i := 19) rfl) rfl
theorem q2_18 : (Cond.static arraycopyName : Cond) ∈ lw_w := tb2 _ (List.mem_of_getElem? (i := 18) rfl) rfl
theorem q1_9 : (Cond.initialized "java/lang/System" : Cond) ∈ lw_w := tb1 _ (List.mem_of_getElem? (i := 9) rfl) rfl
theorem q2_13 : (Cond.methodLink RX5 58 yX2_copy : Cond) ∈ lw_w := tb2 _ (List.mem_of_getElem? (i := 13) rfl) rfl
theorem q2_14 : (Cond.instanceMethod yX2_copy : Cond) ∈ lw_w := tb2 _ (List.mem_of_getElem? (i := 14) rfl) rfl
theorem q2_15 : (Cond.selects RX2 yX2_copy yX2_copy : Cond) ∈ lw_w := tb2 _ (List.mem_of_getElem? (i := 15) rfl) rfl
theorem q2_16 : (Cond.code yX2_copy cX2_copy 2 none : Cond) ∈ lw_w := tb2 _ (List.mem_of_getElem? (i := 16) rfl) rfl
theorem q1_32 : (Cond.fieldLink RX2 42 "MeterPool$Houses" "size" "I" : Cond) ∈ lw_w := tb1 _ (List.mem_of_getElem? (i := 32) rfl) rfl
theorem q2_17 : (Cond.methodLink RX2 46 arraycopyName : Cond) ∈ lw_w := tb2 _ (List.mem_of_getElem? (i := 17) rfl) rfl
theorem q2_20 : (Cond.methodLink RX5 62 yX4_copy : Cond) ∈ lw_w := tb2 _ (List.mem_of_getElem? (i := 20) rfl) rfl
theorem q2_21 : (Cond.instanceMethod yX4_copy : Cond) ∈ lw_w := tb2 _ (List.mem_of_getElem? (i := 21) rfl) rfl
theorem q2_22 : (Cond.selects RX4 yX4_copy yX4_copy : Cond) ∈ lw_w := tb2 _ (List.mem_of_getElem? (i := 22) rfl) rfl
theorem q2_23 : (Cond.code yX4_copy cX4_copy 2 none : Cond) ∈ lw_w := tb2 _ (List.mem_of_getElem? (i := 23) rfl) rfl
theorem q1_84 : (Cond.fieldLink RX4 21 "MeterPool$Loans" "size" "I" : Cond) ∈ lw_w := tb1 _ (List.mem_of_getElem? (i := 84) rfl) rfl
theorem q2_24 : (Cond.methodLink RX4 25 arraycopyName : Cond) ∈ lw_w := tb2 _ (List.mem_of_getElem? (i := 24) rfl) rfl
theorem q2_25 : (Cond.methodLink RX5 65 yX0_copy : Cond) ∈ lw_w := tb2 _ (List.mem_of_getElem? (i := 25) rfl) rfl
theorem q2_26 : (Cond.instanceMethod yX0_copy : Cond) ∈ lw_w := tb2 _ (List.mem_of_getElem? (i := 26) rfl) rfl
theorem q2_27 : (Cond.selects RX0 yX0_copy yX0_copy : Cond) ∈ lw_w := tb2 _ (List.mem_of_getElem? (i := 27) rfl) rfl
theorem q2_28 : (Cond.code yX0_copy cX0_copy 2 none : Cond) ∈ lw_w := tb2 _ (List.mem_of_getElem? (i := 28) rfl) rfl
theorem q2_29 : (Cond.methodLink RX0 24 arraycopyName : Cond) ∈ lw_w := tb2 _ (List.mem_of_getElem? (i := 29) rfl) rfl
theorem q2_31 : (Cond.methodLink RX5 74 yX5_takeList : Cond) ∈ lw_w := tb2 _ (List.mem_of_getElem? (i := 31) rfl) rfl
theorem q2_32 : (Cond.instanceMethod yX5_takeList : Cond) ∈ lw_w := tb2 _ (List.mem_of_getElem? (i := 32) rfl) rfl
theorem q2_33 : (Cond.selects RX5 yX5_takeList yX5_takeList : Cond) ∈ lw_w := tb2 _ (List.mem_of_getElem? (i := 33) rfl) rfl
theorem q2_34 : (Cond.code yX5_takeList cX5_takeList 3 none : Cond) ∈ lw_w := tb2 _ (List.mem_of_getElem? (i := 34) rfl) rfl
theorem q2_35 : (Cond.methodLink RX6 61 yX2_add : Cond) ∈ lw_w := tb2 _ (List.mem_of_getElem? (i := 35) rfl) rfl
theorem q2_36 : (Cond.instanceMethod yX2_add : Cond) ∈ lw_w := tb2 _ (List.mem_of_getElem? (i := 36) rfl) rfl
theorem q2_37 : (Cond.selects RX2 yX2_add yX2_add : Cond) ∈ lw_w := tb2 _ (List.mem_of_getElem? (i := 37) rfl) rfl
theorem q2_38 : (Cond.code yX2_add cX2_add 4 (some .int) : Cond) ∈ lw_w := tb2 _ (List.mem_of_getElem? (i := 38) rfl) rfl
theorem q4_73 : (Cond.methodLink RL 17 yX7_addHouse : Cond) ∈ lw_w := tb4 _ (List.mem_of_getElem? (i := 73) rfl) rfl
theorem q4_74 : (Cond.instanceMethod yX7_addHouse : Cond) ∈ lw_w := tb4 _ (List.mem_of_getElem? (i := 74) rfl) rfl
theorem q4_75 : (Cond.selects RX7 yX7_addHouse yX7_addHouse : Cond) ∈ lw_w := tb4 _ (List.mem_of_getElem? (i := 75) rfl) rfl
theorem q4_76 : (Cond.code yX7_addHouse cX7_addHouse 5 (some .int) : Cond) ∈ lw_w := tb4 _ (List.mem_of_getElem? (i := 76) rfl) rfl
theorem q4_80 : (Cond.constant RX7 43 (-1000002) : Cond) ∈ lw_w := tb4 _ (List.mem_of_getElem? (i := 80) rfl) rfl
theorem q4_81 : (Cond.constant RX7 44 (-1000004) : Cond) ∈ lw_w := tb4 _ (List.mem_of_getElem? (i := 81) rfl) rfl
theorem q4_77 : (Cond.methodLink RX7 31 yX7_within : Cond) ∈ lw_w := tb4 _ (List.mem_of_getElem? (i := 77) rfl) rfl
theorem q4_78 : (Cond.static yX7_within : Cond) ∈ lw_w := tb4 _ (List.mem_of_getElem? (i := 78) rfl) rfl
theorem q4_79 : (Cond.code yX7_within cX7_within 3 (some .boolean) : Cond) ∈ lw_w := tb4 _ (List.mem_of_getElem? (i := 79) rfl) rfl
theorem q4_82 : (Cond.methodLink RX7 45 yX7_record : Cond) ∈ lw_w := tb4 _ (List.mem_of_getElem? (i := 82) rfl) rfl
theorem q4_84 : (Cond.instanceMethod yX7_record : Cond) ∈ lw_w := tb4 _ (List.mem_of_getElem? (i := 84) rfl) rfl
theorem qs28 : (Cond.selects RX7 yX7_record yX7_record : Cond) ∈ lw_w := List.mem_filter.mpr ⟨List.mem_append_left _ (List.mem_of_getElem? (i := 28) rfl), rfl⟩
theorem q4_85 : (Cond.code yX7_record cX7_record 2 none : Cond) ∈ lw_w := tb4 _ (List.mem_of_getElem? (i := 85) rfl) rfl
theorem q4_26 : (Cond.fieldLink RX7 35 "MeterPoolModel" "states" "I" : Cond) ∈ lw_w := tb4 _ (List.mem_of_getElem? (i := 26) rfl) rfl
theorem q4_86 : (Cond.methodLink RX7 39 yX7_copy : Cond) ∈ lw_w := tb4 _ (List.mem_of_getElem? (i := 86) rfl) rfl
theorem q4_88 : (Cond.instanceMethod yX7_copy : Cond) ∈ lw_w := tb4 _ (List.mem_of_getElem? (i := 88) rfl) rfl
theorem qs29 : (Cond.selects RX7 yX7_copy yX7_copy : Cond) ∈ lw_w := List.mem_filter.mpr ⟨List.mem_append_left _ (List.mem_of_getElem? (i := 29) rfl), rfl⟩
theorem q4_89 : (Cond.code yX7_copy cX7_copy 6 none : Cond) ∈ lw_w := tb4 _ (List.mem_of_getElem? (i := 89) rfl) rfl
theorem q2_39 : (Cond.methodLink RL 18 yX6_setHouse : Cond) ∈ lw_w := tb2 _ (List.mem_of_getElem? (i := 39) rfl) rfl
theorem q2_40 : (Cond.instanceMethod yX6_setHouse : Cond) ∈ lw_w := tb2 _ (List.mem_of_getElem? (i := 40) rfl) rfl
theorem q2_41 : (Cond.selects RX6 yX6_setHouse yX6_setHouse : Cond) ∈ lw_w := tb2 _ (List.mem_of_getElem? (i := 41) rfl) rfl
theorem q2_42 : (Cond.code yX6_setHouse cX6_setHouse 5 (some .int) : Cond) ∈ lw_w := tb2 _ (List.mem_of_getElem? (i := 42) rfl) rfl
theorem q2_47 : (Cond.fieldLink RX6 69 "MeterPool" "HOUSE_MOST" "[I" : Cond) ∈ lw_w := tb2 _ (List.mem_of_getElem? (i := 47) rfl) rfl
theorem q2_43 : (Cond.methodLink RX6 65 yX6_isHouse : Cond) ∈ lw_w := tb2 _ (List.mem_of_getElem? (i := 43) rfl) rfl
theorem q2_45 : (Cond.instanceMethod yX6_isHouse : Cond) ∈ lw_w := tb2 _ (List.mem_of_getElem? (i := 45) rfl) rfl
theorem qs1 : (Cond.selects RX6 yX6_isHouse yX6_isHouse : Cond) ∈ lw_w := List.mem_filter.mpr ⟨List.mem_append_left _ (List.mem_of_getElem? (i := 1) rfl), rfl⟩
theorem q2_46 : (Cond.code yX6_isHouse cX6_isHouse 2 (some .boolean) : Cond) ∈ lw_w := tb2 _ (List.mem_of_getElem? (i := 46) rfl) rfl
theorem q2_49 : (Cond.methodLink RX6 73 yX2_told : Cond) ∈ lw_w := tb2 _ (List.mem_of_getElem? (i := 49) rfl) rfl
theorem q2_50 : (Cond.instanceMethod yX2_told : Cond) ∈ lw_w := tb2 _ (List.mem_of_getElem? (i := 50) rfl) rfl
theorem q2_51 : (Cond.selects RX2 yX2_told yX2_told : Cond) ∈ lw_w := tb2 _ (List.mem_of_getElem? (i := 51) rfl) rfl
theorem q2_52 : (Cond.code yX2_told cX2_told 3 (some .int) : Cond) ∈ lw_w := tb2 _ (List.mem_of_getElem? (i := 52) rfl) rfl
theorem q2_53 : (Cond.methodLink RX6 76 yX2_change : Cond) ∈ lw_w := tb2 _ (List.mem_of_getElem? (i := 53) rfl) rfl
theorem q2_54 : (Cond.instanceMethod yX2_change : Cond) ∈ lw_w := tb2 _ (List.mem_of_getElem? (i := 54) rfl) rfl
theorem q2_55 : (Cond.selects RX2 yX2_change yX2_change : Cond) ∈ lw_w := tb2 _ (List.mem_of_getElem? (i := 55) rfl) rfl
theorem q2_56 : (Cond.code yX2_change cX2_change 4 none : Cond) ∈ lw_w := tb2 _ (List.mem_of_getElem? (i := 56) rfl) rfl
theorem q4_90 : (Cond.methodLink RL 22 yX7_setHouse : Cond) ∈ lw_w := tb4 _ (List.mem_of_getElem? (i := 90) rfl) rfl
theorem q4_91 : (Cond.instanceMethod yX7_setHouse : Cond) ∈ lw_w := tb4 _ (List.mem_of_getElem? (i := 91) rfl) rfl
theorem q4_92 : (Cond.selects RX7 yX7_setHouse yX7_setHouse : Cond) ∈ lw_w := tb4 _ (List.mem_of_getElem? (i := 92) rfl) rfl
theorem q4_93 : (Cond.code yX7_setHouse cX7_setHouse 5 (some .int) : Cond) ∈ lw_w := tb4 _ (List.mem_of_getElem? (i := 93) rfl) rfl
theorem q4_94 : (Cond.methodLink RX7 48 yX7_isHouse : Cond) ∈ lw_w := tb4 _ (List.mem_of_getElem? (i := 94) rfl) rfl
theorem q4_96 : (Cond.instanceMethod yX7_isHouse : Cond) ∈ lw_w := tb4 _ (List.mem_of_getElem? (i := 96) rfl) rfl
theorem qs30 : (Cond.selects RX7 yX7_isHouse yX7_isHouse : Cond) ∈ lw_w := List.mem_filter.mpr ⟨List.mem_append_left _ (List.mem_of_getElem? (i := 30) rfl), rfl⟩
theorem q4_97 : (Cond.code yX7_isHouse cX7_isHouse 2 (some .boolean) : Cond) ∈ lw_w := tb4 _ (List.mem_of_getElem? (i := 97) rfl) rfl
theorem q4_98 : (Cond.methodLink RX7 52 yX7_isProperty : Cond) ∈ lw_w := tb4 _ (List.mem_of_getElem? (i := 98) rfl) rfl
theorem q4_99 : (Cond.static yX7_isProperty : Cond) ∈ lw_w := tb4 _ (List.mem_of_getElem? (i := 99) rfl) rfl
theorem q4_100 : (Cond.code yX7_isProperty cX7_isProperty 2 (some .boolean) : Cond) ∈ lw_w := tb4 _ (List.mem_of_getElem? (i := 100) rfl) rfl
theorem q4_101 : (Cond.methodLink RX7 56 yX7_of : Cond) ∈ lw_w := tb4 _ (List.mem_of_getElem? (i := 101) rfl) rfl
theorem q4_103 : (Cond.instanceMethod yX7_of : Cond) ∈ lw_w := tb4 _ (List.mem_of_getElem? (i := 103) rfl) rfl
theorem qs31 : (Cond.selects RX7 yX7_of yX7_of : Cond) ∈ lw_w := List.mem_filter.mpr ⟨List.mem_append_left _ (List.mem_of_getElem? (i := 31) rfl), rfl⟩
theorem q4_104 : (Cond.code yX7_of cX7_of 3 (some .int) : Cond) ∈ lw_w := tb4 _ (List.mem_of_getElem? (i := 104) rfl) rfl
theorem q2_57 : (Cond.methodLink RL 23 yX6_removeHouse : Cond) ∈ lw_w := tb2 _ (List.mem_of_getElem? (i := 57) rfl) rfl
theorem q2_58 : (Cond.instanceMethod yX6_removeHouse : Cond) ∈ lw_w := tb2 _ (List.mem_of_getElem? (i := 58) rfl) rfl
theorem q2_59 : (Cond.selects RX6 yX6_removeHouse yX6_removeHouse : Cond) ∈ lw_w := tb2 _ (List.mem_of_getElem? (i := 59) rfl) rfl
theorem q2_60 : (Cond.code yX6_removeHouse cX6_removeHouse 2 (some .int) : Cond) ∈ lw_w := tb2 _ (List.mem_of_getElem? (i := 60) rfl) rfl
theorem q1_125 : (Cond.fieldLink RX6 80 "MeterPool$Village" "loans" "LMeterPool$Loans;" : Cond) ∈ lw_w := tb1 _ (List.mem_of_getElem? (i := 125) rfl) rfl
theorem q2_65 : (Cond.constant RX6 89 (-1000003) : Cond) ∈ lw_w := tb2 _ (List.mem_of_getElem? (i := 65) rfl) rfl
theorem q2_61 : (Cond.methodLink RX6 84 yX4_involve : Cond) ∈ lw_w := tb2 _ (List.mem_of_getElem? (i := 61) rfl) rfl
theorem q2_62 : (Cond.instanceMethod yX4_involve : Cond) ∈ lw_w := tb2 _ (List.mem_of_getElem? (i := 62) rfl) rfl
theorem q2_63 : (Cond.selects RX4 yX4_involve yX4_involve : Cond) ∈ lw_w := tb2 _ (List.mem_of_getElem? (i := 63) rfl) rfl
theorem q2_64 : (Cond.code yX4_involve cX4_involve 3 (some .boolean) : Cond) ∈ lw_w := tb2 _ (List.mem_of_getElem? (i := 64) rfl) rfl
theorem q2_66 : (Cond.methodLink RX6 90 yX2_remove : Cond) ∈ lw_w := tb2 _ (List.mem_of_getElem? (i := 66) rfl) rfl
theorem q2_67 : (Cond.instanceMethod yX2_remove : Cond) ∈ lw_w := tb2 _ (List.mem_of_getElem? (i := 67) rfl) rfl
theorem q2_68 : (Cond.selects RX2 yX2_remove yX2_remove : Cond) ∈ lw_w := tb2 _ (List.mem_of_getElem? (i := 68) rfl) rfl
theorem q2_69 : (Cond.code yX2_remove cX2_remove 3 none : Cond) ∈ lw_w := tb2 _ (List.mem_of_getElem? (i := 69) rfl) rfl
theorem q2_70 : (Cond.methodLink RX6 94 yX4_renumber : Cond) ∈ lw_w := tb2 _ (List.mem_of_getElem? (i := 70) rfl) rfl
theorem q2_71 : (Cond.instanceMethod yX4_renumber : Cond) ∈ lw_w := tb2 _ (List.mem_of_getElem? (i := 71) rfl) rfl
theorem q2_72 : (Cond.selects RX4 yX4_renumber yX4_renumber : Cond) ∈ lw_w := tb2 _ (List.mem_of_getElem? (i := 72) rfl) rfl
theorem q2_73 : (Cond.code yX4_renumber cX4_renumber 3 none : Cond) ∈ lw_w := tb2 _ (List.mem_of_getElem? (i := 73) rfl) rfl
theorem q4_105 : (Cond.methodLink RL 27 yX7_removeHouse : Cond) ∈ lw_w := tb4 _ (List.mem_of_getElem? (i := 105) rfl) rfl
theorem q4_106 : (Cond.instanceMethod yX7_removeHouse : Cond) ∈ lw_w := tb4 _ (List.mem_of_getElem? (i := 106) rfl) rfl
theorem q4_107 : (Cond.selects RX7 yX7_removeHouse yX7_removeHouse : Cond) ∈ lw_w := tb4 _ (List.mem_of_getElem? (i := 107) rfl) rfl
theorem q4_108 : (Cond.code yX7_removeHouse cX7_removeHouse 4 (some .int) : Cond) ∈ lw_w := tb4 _ (List.mem_of_getElem? (i := 108) rfl) rfl
theorem q4_117 : (Cond.constant RX7 66 (-1000003) : Cond) ∈ lw_w := tb4 _ (List.mem_of_getElem? (i := 117) rfl) rfl
theorem q4_109 : (Cond.methodLink RX7 63 yX7_owed : Cond) ∈ lw_w := tb4 _ (List.mem_of_getElem? (i := 109) rfl) rfl
theorem q4_111 : (Cond.instanceMethod yX7_owed : Cond) ∈ lw_w := tb4 _ (List.mem_of_getElem? (i := 111) rfl) rfl
theorem qs32 : (Cond.selects RX7 yX7_owed yX7_owed : Cond) ∈ lw_w := List.mem_filter.mpr ⟨List.mem_append_left _ (List.mem_of_getElem? (i := 32) rfl), rfl⟩
theorem q4_112 : (Cond.code yX7_owed cX7_owed 5 (some .int) : Cond) ∈ lw_w := tb4 _ (List.mem_of_getElem? (i := 112) rfl) rfl
theorem q4_113 : (Cond.methodLink RX7 60 yX7_loanOf : Cond) ∈ lw_w := tb4 _ (List.mem_of_getElem? (i := 113) rfl) rfl
theorem q4_115 : (Cond.instanceMethod yX7_loanOf : Cond) ∈ lw_w := tb4 _ (List.mem_of_getElem? (i := 115) rfl) rfl
theorem qs33 : (Cond.selects RX7 yX7_loanOf yX7_loanOf : Cond) ∈ lw_w := List.mem_filter.mpr ⟨List.mem_append_left _ (List.mem_of_getElem? (i := 33) rfl), rfl⟩
theorem q4_116 : (Cond.code yX7_loanOf cX7_loanOf 3 (some .int) : Cond) ∈ lw_w := tb4 _ (List.mem_of_getElem? (i := 116) rfl) rfl
theorem q2_74 : (Cond.methodLink RL 28 yX6_buy : Cond) ∈ lw_w := tb2 _ (List.mem_of_getElem? (i := 74) rfl) rfl
theorem q2_75 : (Cond.instanceMethod yX6_buy : Cond) ∈ lw_w := tb2 _ (List.mem_of_getElem? (i := 75) rfl) rfl
theorem q2_76 : (Cond.selects RX6 yX6_buy yX6_buy : Cond) ∈ lw_w := tb2 _ (List.mem_of_getElem? (i := 76) rfl) rfl
theorem q2_77 : (Cond.code yX6_buy cX6_buy 3 (some .int) : Cond) ∈ lw_w := tb2 _ (List.mem_of_getElem? (i := 77) rfl) rfl
theorem q1_44 : (Cond.fieldLink RX6 101 "MeterPool$Houses" "credit" "[I" : Cond) ∈ lw_w := tb1 _ (List.mem_of_getElem? (i := 44) rfl) rfl
theorem q2_78 : (Cond.methodLink RX6 97 yX5_takeToken : Cond) ∈ lw_w := tb2 _ (List.mem_of_getElem? (i := 78) rfl) rfl
theorem q2_79 : (Cond.instanceMethod yX5_takeToken : Cond) ∈ lw_w := tb2 _ (List.mem_of_getElem? (i := 79) rfl) rfl
theorem q2_80 : (Cond.selects RX5 yX5_takeToken yX5_takeToken : Cond) ∈ lw_w := tb2 _ (List.mem_of_getElem? (i := 80) rfl) rfl
theorem q2_81 : (Cond.code yX5_takeToken cX5_takeToken 5 none : Cond) ∈ lw_w := tb2 _ (List.mem_of_getElem? (i := 81) rfl) rfl
theorem q1_41 : (Cond.fieldLink RX5 84 "MeterPool$Houses" "debt" "[I" : Cond) ∈ lw_w := tb1 _ (List.mem_of_getElem? (i := 41) rfl) rfl
theorem q1_45 : (Cond.fieldLink RX5 104 "MeterPool$Houses" "credit" "[I" : Cond) ∈ lw_w := tb1 _ (List.mem_of_getElem? (i := 45) rfl) rfl
theorem q2_82 : (Cond.methodLink RX5 90 yX5_partForDebt : Cond) ∈ lw_w := tb2 _ (List.mem_of_getElem? (i := 82) rfl) rfl
theorem q2_83 : (Cond.instanceMethod yX5_partForDebt : Cond) ∈ lw_w := tb2 _ (List.mem_of_getElem? (i := 83) rfl) rfl
theorem q2_84 : (Cond.selects RX5 yX5_partForDebt yX5_partForDebt : Cond) ∈ lw_w := tb2 _ (List.mem_of_getElem? (i := 84) rfl) rfl
theorem q2_85 : (Cond.code yX5_partForDebt cX5_partForDebt 3 (some .int) : Cond) ∈ lw_w := tb2 _ (List.mem_of_getElem? (i := 85) rfl) rfl
theorem q2_86 : (Cond.methodLink RX5 87 Lib.Math.min.name : Cond) ∈ lw_w := tb2 _ (List.mem_of_getElem? (i := 86) rfl) rfl
theorem q2_87 : (Cond.static Lib.Math.min.name : Cond) ∈ lw_w := tb2 _ (List.mem_of_getElem? (i := 87) rfl) rfl
theorem q1_10 : (Cond.initialized "java/lang/Math" : Cond) ∈ lw_w := tb1 _ (List.mem_of_getElem? (i := 10) rfl) rfl
theorem q2_88 : (Cond.code Lib.Math.min.name Lib.Math.min.code 2 (some .int) : Cond) ∈ lw_w := tb2 _ (List.mem_of_getElem? (i := 88) rfl) rfl
theorem q2_89 : (Cond.methodLink RX5 97 yX5_partForLoans : Cond) ∈ lw_w := tb2 _ (List.mem_of_getElem? (i := 89) rfl) rfl
theorem q2_90 : (Cond.instanceMethod yX5_partForLoans : Cond) ∈ lw_w := tb2 _ (List.mem_of_getElem? (i := 90) rfl) rfl
theorem q2_91 : (Cond.selects RX5 yX5_partForLoans yX5_partForLoans : Cond) ∈ lw_w := tb2 _ (List.mem_of_getElem? (i := 91) rfl) rfl
theorem q2_92 : (Cond.code yX5_partForLoans cX5_partForLoans 4 (some .int) : Cond) ∈ lw_w := tb2 _ (List.mem_of_getElem? (i := 92) rfl) rfl
theorem q2_93 : (Cond.methodLink RX5 93 yX4_owedBy : Cond) ∈ lw_w := tb2 _ (List.mem_of_getElem? (i := 93) rfl) rfl
theorem q2_94 : (Cond.instanceMethod yX4_owedBy : Cond) ∈ lw_w := tb2 _ (List.mem_of_getElem? (i := 94) rfl) rfl
theorem q2_95 : (Cond.selects RX4 yX4_owedBy yX4_owedBy : Cond) ∈ lw_w := tb2 _ (List.mem_of_getElem? (i := 95) rfl) rfl
theorem q2_96 : (Cond.code yX4_owedBy cX4_owedBy 2 (some .int) : Cond) ∈ lw_w := tb2 _ (List.mem_of_getElem? (i := 96) rfl) rfl
theorem q2_97 : (Cond.methodLink RX4 31 yX4_sumOwed : Cond) ∈ lw_w := tb2 _ (List.mem_of_getElem? (i := 97) rfl) rfl
theorem q2_99 : (Cond.instanceMethod yX4_sumOwed : Cond) ∈ lw_w := tb2 _ (List.mem_of_getElem? (i := 99) rfl) rfl
theorem qs2 : (Cond.selects RX4 yX4_sumOwed yX4_sumOwed : Cond) ∈ lw_w := List.mem_filter.mpr ⟨List.mem_append_left _ (List.mem_of_getElem? (i := 2) rfl), rfl⟩
theorem q2_100 : (Cond.code yX4_sumOwed cX4_sumOwed 5 (some .int) : Cond) ∈ lw_w := tb2 _ (List.mem_of_getElem? (i := 100) rfl) rfl
theorem q2_101 : (Cond.methodLink RX5 100 yX5_payLoans : Cond) ∈ lw_w := tb2 _ (List.mem_of_getElem? (i := 101) rfl) rfl
theorem q2_103 : (Cond.instanceMethod yX5_payLoans : Cond) ∈ lw_w := tb2 _ (List.mem_of_getElem? (i := 103) rfl) rfl
theorem qs3 : (Cond.selects RX5 yX5_payLoans yX5_payLoans : Cond) ∈ lw_w := List.mem_filter.mpr ⟨List.mem_append_left _ (List.mem_of_getElem? (i := 3) rfl), rfl⟩
theorem q2_104 : (Cond.code yX5_payLoans cX5_payLoans 6 none : Cond) ∈ lw_w := tb2 _ (List.mem_of_getElem? (i := 104) rfl) rfl
theorem q1_86 : (Cond.fieldLink RX5 107 "MeterPool$Loans" "size" "I" : Cond) ∈ lw_w := tb1 _ (List.mem_of_getElem? (i := 86) rfl) rfl
theorem q1_90 : (Cond.fieldLink RX5 110 "MeterPool$Loans" "borrower" "[I" : Cond) ∈ lw_w := tb1 _ (List.mem_of_getElem? (i := 90) rfl) rfl
theorem q1_93 : (Cond.fieldLink RX5 113 "MeterPool$Loans" "owed" "[I" : Cond) ∈ lw_w := tb1 _ (List.mem_of_getElem? (i := 93) rfl) rfl
theorem q1_88 : (Cond.fieldLink RX5 116 "MeterPool$Loans" "lender" "[I" : Cond) ∈ lw_w := tb1 _ (List.mem_of_getElem? (i := 88) rfl) rfl
theorem q2_105 : (Cond.methodLink RX5 119 yX4_removePaid : Cond) ∈ lw_w := tb2 _ (List.mem_of_getElem? (i := 105) rfl) rfl
theorem q2_106 : (Cond.instanceMethod yX4_removePaid : Cond) ∈ lw_w := tb2 _ (List.mem_of_getElem? (i := 106) rfl) rfl
theorem q2_107 : (Cond.selects RX4 yX4_removePaid yX4_removePaid : Cond) ∈ lw_w := tb2 _ (List.mem_of_getElem? (i := 107) rfl) rfl
theorem q2_108 : (Cond.code yX4_removePaid cX4_removePaid 2 none : Cond) ∈ lw_w := tb2 _ (List.mem_of_getElem? (i := 108) rfl) rfl
theorem q2_109 : (Cond.methodLink RX4 35 yX4_remove : Cond) ∈ lw_w := tb2 _ (List.mem_of_getElem? (i := 109) rfl) rfl
theorem q2_110 : (Cond.instanceMethod yX4_remove : Cond) ∈ lw_w := tb2 _ (List.mem_of_getElem? (i := 110) rfl) rfl
theorem q2_111 : (Cond.selects RX4 yX4_remove yX4_remove : Cond) ∈ lw_w := tb2 _ (List.mem_of_getElem? (i := 111) rfl) rfl
theorem q2_112 : (Cond.code yX4_remove cX4_remove 3 none : Cond) ∈ lw_w := tb2 _ (List.mem_of_getElem? (i := 112) rfl) rfl
theorem q4_118 : (Cond.methodLink RL 31 yX7_buy : Cond) ∈ lw_w := tb4 _ (List.mem_of_getElem? (i := 118) rfl) rfl
theorem q4_119 : (Cond.instanceMethod yX7_buy : Cond) ∈ lw_w := tb4 _ (List.mem_of_getElem? (i := 119) rfl) rfl
theorem q4_120 : (Cond.selects RX7 yX7_buy yX7_buy : Cond) ∈ lw_w := tb4 _ (List.mem_of_getElem? (i := 120) rfl) rfl
theorem q4_121 : (Cond.code yX7_buy cX7_buy 3 (some .int) : Cond) ∈ lw_w := tb4 _ (List.mem_of_getElem? (i := 121) rfl) rfl
theorem q4_122 : (Cond.methodLink RX7 78 yX7_token : Cond) ∈ lw_w := tb4 _ (List.mem_of_getElem? (i := 122) rfl) rfl
theorem q4_124 : (Cond.instanceMethod yX7_token : Cond) ∈ lw_w := tb4 _ (List.mem_of_getElem? (i := 124) rfl) rfl
theorem qs34 : (Cond.selects RX7 yX7_token yX7_token : Cond) ∈ lw_w := List.mem_filter.mpr ⟨List.mem_append_left _ (List.mem_of_getElem? (i := 34) rfl), rfl⟩
theorem q4_125 : (Cond.code yX7_token cX7_token 11 none : Cond) ∈ lw_w := tb4 _ (List.mem_of_getElem? (i := 125) rfl) rfl
theorem q4_126 : (Cond.methodLink RX7 67 yX7_setting1 : Cond) ∈ lw_w := tb4 _ (List.mem_of_getElem? (i := 126) rfl) rfl
theorem q4_128 : (Cond.instanceMethod yX7_setting1 : Cond) ∈ lw_w := tb4 _ (List.mem_of_getElem? (i := 128) rfl) rfl
theorem qs35 : (Cond.selects RX7 yX7_setting1 yX7_setting1 : Cond) ∈ lw_w := List.mem_filter.mpr ⟨List.mem_append_left _ (List.mem_of_getElem? (i := 35) rfl), rfl⟩
theorem q4_129 : (Cond.code yX7_setting1 cX7_setting1 2 (some .int) : Cond) ∈ lw_w := tb4 _ (List.mem_of_getElem? (i := 129) rfl) rfl
theorem q4_130 : (Cond.methodLink RX7 71 yX7_add : Cond) ∈ lw_w := tb4 _ (List.mem_of_getElem? (i := 130) rfl) rfl
theorem q4_132 : (Cond.instanceMethod yX7_add : Cond) ∈ lw_w := tb4 _ (List.mem_of_getElem? (i := 132) rfl) rfl
theorem qs36 : (Cond.selects RX7 yX7_add yX7_add : Cond) ∈ lw_w := List.mem_filter.mpr ⟨List.mem_append_left _ (List.mem_of_getElem? (i := 36) rfl), rfl⟩
theorem q4_133 : (Cond.code yX7_add cX7_add 4 none : Cond) ∈ lw_w := tb4 _ (List.mem_of_getElem? (i := 133) rfl) rfl
theorem q4_134 : (Cond.methodLink RX7 75 yX7_dropPaid : Cond) ∈ lw_w := tb4 _ (List.mem_of_getElem? (i := 134) rfl) rfl
theorem q4_136 : (Cond.instanceMethod yX7_dropPaid : Cond) ∈ lw_w := tb4 _ (List.mem_of_getElem? (i := 136) rfl) rfl
theorem qs37 : (Cond.selects RX7 yX7_dropPaid yX7_dropPaid : Cond) ∈ lw_w := List.mem_filter.mpr ⟨List.mem_append_left _ (List.mem_of_getElem? (i := 37) rfl), rfl⟩
theorem q4_137 : (Cond.code yX7_dropPaid cX7_dropPaid 4 none : Cond) ∈ lw_w := tb4 _ (List.mem_of_getElem? (i := 137) rfl) rfl
theorem q2_113 : (Cond.methodLink RL 32 yX6_lend : Cond) ∈ lw_w := tb2 _ (List.mem_of_getElem? (i := 113) rfl) rfl
theorem q2_114 : (Cond.instanceMethod yX6_lend : Cond) ∈ lw_w := tb2 _ (List.mem_of_getElem? (i := 114) rfl) rfl
theorem q2_115 : (Cond.selects RX6 yX6_lend yX6_lend : Cond) ∈ lw_w := tb2 _ (List.mem_of_getElem? (i := 115) rfl) rfl
theorem q2_116 : (Cond.code yX6_lend cX6_lend 4 (some .int) : Cond) ∈ lw_w := tb2 _ (List.mem_of_getElem? (i := 116) rfl) rfl
theorem q1_85 : (Cond.fieldLink RX6 104 "MeterPool$Loans" "size" "I" : Cond) ∈ lw_w := tb1 _ (List.mem_of_getElem? (i := 85) rfl) rfl
theorem q2_117 : (Cond.methodLink RX6 105 yX4_add : Cond) ∈ lw_w := tb2 _ (List.mem_of_getElem? (i := 117) rfl) rfl
theorem q2_118 : (Cond.instanceMethod yX4_add : Cond) ∈ lw_w := tb2 _ (List.mem_of_getElem? (i := 118) rfl) rfl
theorem q2_119 : (Cond.selects RX4 yX4_add yX4_add : Cond) ∈ lw_w := tb2 _ (List.mem_of_getElem? (i := 119) rfl) rfl
theorem q2_120 : (Cond.code yX4_add cX4_add 4 none : Cond) ∈ lw_w := tb2 _ (List.mem_of_getElem? (i := 120) rfl) rfl
theorem q4_138 : (Cond.methodLink RL 35 yX7_lend : Cond) ∈ lw_w := tb4 _ (List.mem_of_getElem? (i := 138) rfl) rfl
theorem q4_139 : (Cond.instanceMethod yX7_lend : Cond) ∈ lw_w := tb4 _ (List.mem_of_getElem? (i := 139) rfl) rfl
theorem q4_140 : (Cond.selects RX7 yX7_lend yX7_lend : Cond) ∈ lw_w := tb4 _ (List.mem_of_getElem? (i := 140) rfl) rfl
theorem q4_141 : (Cond.code yX7_lend cX7_lend 5 (some .int) : Cond) ∈ lw_w := tb4 _ (List.mem_of_getElem? (i := 141) rfl) rfl
theorem q2_121 : (Cond.methodLink RL 36 yX6_remit : Cond) ∈ lw_w := tb2 _ (List.mem_of_getElem? (i := 121) rfl) rfl
theorem q2_122 : (Cond.instanceMethod yX6_remit : Cond) ∈ lw_w := tb2 _ (List.mem_of_getElem? (i := 122) rfl) rfl
theorem q2_123 : (Cond.selects RX6 yX6_remit yX6_remit : Cond) ∈ lw_w := tb2 _ (List.mem_of_getElem? (i := 123) rfl) rfl
theorem q2_124 : (Cond.code yX6_remit cX6_remit 3 (some .int) : Cond) ∈ lw_w := tb2 _ (List.mem_of_getElem? (i := 124) rfl) rfl
theorem q1_92 : (Cond.fieldLink RX6 110 "MeterPool$Loans" "owed" "[I" : Cond) ∈ lw_w := tb1 _ (List.mem_of_getElem? (i := 92) rfl) rfl
theorem q2_125 : (Cond.methodLink RX6 107 yX6_isLoan : Cond) ∈ lw_w := tb2 _ (List.mem_of_getElem? (i := 125) rfl) rfl
theorem q2_127 : (Cond.instanceMethod yX6_isLoan : Cond) ∈ lw_w := tb2 _ (List.mem_of_getElem? (i := 127) rfl) rfl
theorem qs4 : (Cond.selects RX6 yX6_isLoan yX6_isLoan : Cond) ∈ lw_w := List.mem_filter.mpr ⟨List.mem_append_left _ (List.mem_of_getElem? (i := 4) rfl), rfl⟩
theorem q2_128 : (Cond.code yX6_isLoan cX6_isLoan 2 (some .boolean) : Cond) ∈ lw_w := tb2 _ (List.mem_of_getElem? (i := 128) rfl) rfl
theorem q2_129 : (Cond.methodLink RX6 113 yX4_remove : Cond) ∈ lw_w := tb2 _ (List.mem_of_getElem? (i := 129) rfl) rfl
theorem q4_142 : (Cond.methodLink RL 39 yX7_remit : Cond) ∈ lw_w := tb4 _ (List.mem_of_getElem? (i := 142) rfl) rfl
theorem q4_143 : (Cond.instanceMethod yX7_remit : Cond) ∈ lw_w := tb4 _ (List.mem_of_getElem? (i := 143) rfl) rfl
theorem q4_144 : (Cond.selects RX7 yX7_remit yX7_remit : Cond) ∈ lw_w := tb4 _ (List.mem_of_getElem? (i := 144) rfl) rfl
theorem q4_145 : (Cond.code yX7_remit cX7_remit 3 (some .int) : Cond) ∈ lw_w := tb4 _ (List.mem_of_getElem? (i := 145) rfl) rfl
theorem q4_146 : (Cond.methodLink RX7 82 yX7_isLoan : Cond) ∈ lw_w := tb4 _ (List.mem_of_getElem? (i := 146) rfl) rfl
theorem q4_148 : (Cond.instanceMethod yX7_isLoan : Cond) ∈ lw_w := tb4 _ (List.mem_of_getElem? (i := 148) rfl) rfl
theorem qs38 : (Cond.selects RX7 yX7_isLoan yX7_isLoan : Cond) ∈ lw_w := List.mem_filter.mpr ⟨List.mem_append_left _ (List.mem_of_getElem? (i := 38) rfl), rfl⟩
theorem q4_149 : (Cond.code yX7_isLoan cX7_isLoan 2 (some .boolean) : Cond) ∈ lw_w := tb4 _ (List.mem_of_getElem? (i := 149) rfl) rfl
theorem q2_130 : (Cond.methodLink RL 40 yX6_net : Cond) ∈ lw_w := tb2 _ (List.mem_of_getElem? (i := 130) rfl) rfl
theorem q2_131 : (Cond.instanceMethod yX6_net : Cond) ∈ lw_w := tb2 _ (List.mem_of_getElem? (i := 131) rfl) rfl
theorem q2_132 : (Cond.selects RX6 yX6_net yX6_net : Cond) ∈ lw_w := tb2 _ (List.mem_of_getElem? (i := 132) rfl) rfl
theorem q2_133 : (Cond.code yX6_net cX6_net 1 (some .int) : Cond) ∈ lw_w := tb2 _ (List.mem_of_getElem? (i := 133) rfl) rfl
theorem q2_134 : (Cond.methodLink RX6 114 yX4_offset : Cond) ∈ lw_w := tb2 _ (List.mem_of_getElem? (i := 134) rfl) rfl
theorem q2_135 : (Cond.instanceMethod yX4_offset : Cond) ∈ lw_w := tb2 _ (List.mem_of_getElem? (i := 135) rfl) rfl
theorem q2_136 : (Cond.selects RX4 yX4_offset yX4_offset : Cond) ∈ lw_w := tb2 _ (List.mem_of_getElem? (i := 136) rfl) rfl
theorem q2_137 : (Cond.code yX4_offset cX4_offset 6 (some .int) : Cond) ∈ lw_w := tb2 _ (List.mem_of_getElem? (i := 137) rfl) rfl
theorem q2_146 : (Cond.methodLink RX4 47 Lib.Math.min.name : Cond) ∈ lw_w := tb2 _ (List.mem_of_getElem? (i := 146) rfl) rfl
theorem q2_138 : (Cond.methodLink RX4 39 yX4_firstOpposed : Cond) ∈ lw_w := tb2 _ (List.mem_of_getElem? (i := 138) rfl) rfl
theorem q2_140 : (Cond.instanceMethod yX4_firstOpposed : Cond) ∈ lw_w := tb2 _ (List.mem_of_getElem? (i := 140) rfl) rfl
theorem qs5 : (Cond.selects RX4 yX4_firstOpposed yX4_firstOpposed : Cond) ∈ lw_w := List.mem_filter.mpr ⟨List.mem_append_left _ (List.mem_of_getElem? (i := 5) rfl), rfl⟩
theorem q2_141 : (Cond.code yX4_firstOpposed cX4_firstOpposed 2 (some .int) : Cond) ∈ lw_w := tb2 _ (List.mem_of_getElem? (i := 141) rfl) rfl
theorem q2_142 : (Cond.methodLink RX4 43 yX4_opposedTo : Cond) ∈ lw_w := tb2 _ (List.mem_of_getElem? (i := 142) rfl) rfl
theorem q2_144 : (Cond.instanceMethod yX4_opposedTo : Cond) ∈ lw_w := tb2 _ (List.mem_of_getElem? (i := 144) rfl) rfl
theorem qs6 : (Cond.selects RX4 yX4_opposedTo yX4_opposedTo : Cond) ∈ lw_w := List.mem_filter.mpr ⟨List.mem_append_left _ (List.mem_of_getElem? (i := 6) rfl), rfl⟩
theorem q2_145 : (Cond.code yX4_opposedTo cX4_opposedTo 3 (some .int) : Cond) ∈ lw_w := tb2 _ (List.mem_of_getElem? (i := 145) rfl) rfl
theorem q2_147 : (Cond.methodLink RX4 53 yX4_removePaid : Cond) ∈ lw_w := tb2 _ (List.mem_of_getElem? (i := 147) rfl) rfl
theorem q4_150 : (Cond.methodLink RL 44 yX7_net : Cond) ∈ lw_w := tb4 _ (List.mem_of_getElem? (i := 150) rfl) rfl
theorem q4_151 : (Cond.instanceMethod yX7_net : Cond) ∈ lw_w := tb4 _ (List.mem_of_getElem? (i := 151) rfl) rfl
theorem q4_152 : (Cond.selects RX7 yX7_net yX7_net : Cond) ∈ lw_w := tb4 _ (List.mem_of_getElem? (i := 152) rfl) rfl
theorem q4_153 : (Cond.code yX7_net cX7_net 3 (some .int) : Cond) ∈ lw_w := tb4 _ (List.mem_of_getElem? (i := 153) rfl) rfl
theorem q4_154 : (Cond.methodLink RX7 89 yX7_netOnce : Cond) ∈ lw_w := tb4 _ (List.mem_of_getElem? (i := 154) rfl) rfl
theorem q4_156 : (Cond.instanceMethod yX7_netOnce : Cond) ∈ lw_w := tb4 _ (List.mem_of_getElem? (i := 156) rfl) rfl
theorem qs39 : (Cond.selects RX7 yX7_netOnce yX7_netOnce : Cond) ∈ lw_w := List.mem_filter.mpr ⟨List.mem_append_left _ (List.mem_of_getElem? (i := 39) rfl), rfl⟩
theorem q4_157 : (Cond.code yX7_netOnce cX7_netOnce 4 (some .int) : Cond) ∈ lw_w := tb4 _ (List.mem_of_getElem? (i := 157) rfl) rfl
theorem q4_162 : (Cond.constant RX7 85 (-1000001) : Cond) ∈ lw_w := tb4 _ (List.mem_of_getElem? (i := 162) rfl) rfl
theorem q4_158 : (Cond.methodLink RX7 86 yX7_against : Cond) ∈ lw_w := tb4 _ (List.mem_of_getElem? (i := 158) rfl) rfl
theorem q4_160 : (Cond.instanceMethod yX7_against : Cond) ∈ lw_w := tb4 _ (List.mem_of_getElem? (i := 160) rfl) rfl
theorem qs40 : (Cond.selects RX7 yX7_against yX7_against : Cond) ∈ lw_w := List.mem_filter.mpr ⟨List.mem_append_left _ (List.mem_of_getElem? (i := 40) rfl), rfl⟩
theorem q4_161 : (Cond.code yX7_against cX7_against 3 (some .int) : Cond) ∈ lw_w := tb4 _ (List.mem_of_getElem? (i := 161) rfl) rfl
theorem q2_148 : (Cond.methodLink RL 45 yX6_set : Cond) ∈ lw_w := tb2 _ (List.mem_of_getElem? (i := 148) rfl) rfl
theorem q2_149 : (Cond.instanceMethod yX6_set : Cond) ∈ lw_w := tb2 _ (List.mem_of_getElem? (i := 149) rfl) rfl
theorem q2_150 : (Cond.selects RX6 yX6_set yX6_set : Cond) ∈ lw_w := tb2 _ (List.mem_of_getElem? (i := 150) rfl) rfl
theorem q2_151 : (Cond.code yX6_set cX6_set 4 (some .int) : Cond) ∈ lw_w := tb2 _ (List.mem_of_getElem? (i := 151) rfl) rfl
theorem q2_155 : (Cond.fieldLink RX6 121 "MeterPool" "SETTING_MOST" "[I" : Cond) ∈ lw_w := tb2 _ (List.mem_of_getElem? (i := 155) rfl) rfl
theorem q1_129 : (Cond.fieldLink RX6 124 "MeterPool$Village" "settings" "[I" : Cond) ∈ lw_w := tb1 _ (List.mem_of_getElem? (i := 129) rfl) rfl
theorem q2_152 : (Cond.methodLink RX6 118 yX6_isSetting : Cond) ∈ lw_w := tb2 _ (List.mem_of_getElem? (i := 152) rfl) rfl
theorem q2_153 : (Cond.static yX6_isSetting : Cond) ∈ lw_w := tb2 _ (List.mem_of_getElem? (i := 153) rfl) rfl
theorem q2_154 : (Cond.code yX6_isSetting cX6_isSetting 1 (some .boolean) : Cond) ∈ lw_w := tb2 _ (List.mem_of_getElem? (i := 154) rfl) rfl
theorem q4_163 : (Cond.methodLink RL 48 yX7_set : Cond) ∈ lw_w := tb4 _ (List.mem_of_getElem? (i := 163) rfl) rfl
theorem q4_164 : (Cond.instanceMethod yX7_set : Cond) ∈ lw_w := tb4 _ (List.mem_of_getElem? (i := 164) rfl) rfl
theorem q4_165 : (Cond.selects RX7 yX7_set yX7_set : Cond) ∈ lw_w := tb4 _ (List.mem_of_getElem? (i := 165) rfl) rfl
theorem q4_166 : (Cond.code yX7_set cX7_set 4 (some .int) : Cond) ∈ lw_w := tb4 _ (List.mem_of_getElem? (i := 166) rfl) rfl
theorem q4_167 : (Cond.methodLink RX7 93 yX7_isSetting : Cond) ∈ lw_w := tb4 _ (List.mem_of_getElem? (i := 167) rfl) rfl
theorem q4_168 : (Cond.static yX7_isSetting : Cond) ∈ lw_w := tb4 _ (List.mem_of_getElem? (i := 168) rfl) rfl
theorem q4_169 : (Cond.code yX7_isSetting cX7_isSetting 2 (some .boolean) : Cond) ∈ lw_w := tb4 _ (List.mem_of_getElem? (i := 169) rfl) rfl
theorem q2_157 : (Cond.methodLink RL 49 yX6_setBattery : Cond) ∈ lw_w := tb2 _ (List.mem_of_getElem? (i := 157) rfl) rfl
theorem q2_158 : (Cond.instanceMethod yX6_setBattery : Cond) ∈ lw_w := tb2 _ (List.mem_of_getElem? (i := 158) rfl) rfl
theorem q2_159 : (Cond.selects RX6 yX6_setBattery yX6_setBattery : Cond) ∈ lw_w := tb2 _ (List.mem_of_getElem? (i := 159) rfl) rfl
theorem q2_160 : (Cond.code yX6_setBattery cX6_setBattery 5 (some .int) : Cond) ∈ lw_w := tb2 _ (List.mem_of_getElem? (i := 160) rfl) rfl
theorem q2_164 : (Cond.fieldLink RX6 130 "MeterPool" "BATTERY_LEAST" "[I" : Cond) ∈ lw_w := tb2 _ (List.mem_of_getElem? (i := 164) rfl) rfl
theorem q2_166 : (Cond.fieldLink RX6 133 "MeterPool" "BATTERY_MOST" "[I" : Cond) ∈ lw_w := tb2 _ (List.mem_of_getElem? (i := 166) rfl) rfl
theorem q1_127 : (Cond.fieldLink RX6 136 "MeterPool$Village" "batteries" "LMeterPool$Batteries;" : Cond) ∈ lw_w := tb1 _ (List.mem_of_getElem? (i := 127) rfl) rfl
theorem q1_131 : (Cond.fieldLink RX6 144 "MeterPool$Village" "accounts" "[I" : Cond) ∈ lw_w := tb1 _ (List.mem_of_getElem? (i := 131) rfl) rfl
theorem q2_161 : (Cond.methodLink RX6 127 yX6_isBattery : Cond) ∈ lw_w := tb2 _ (List.mem_of_getElem? (i := 161) rfl) rfl
theorem q2_162 : (Cond.static yX6_isBattery : Cond) ∈ lw_w := tb2 _ (List.mem_of_getElem? (i := 162) rfl) rfl
theorem q2_163 : (Cond.code yX6_isBattery cX6_isBattery 1 (some .boolean) : Cond) ∈ lw_w := tb2 _ (List.mem_of_getElem? (i := 163) rfl) rfl
theorem q2_168 : (Cond.methodLink RX6 140 yX0_told : Cond) ∈ lw_w := tb2 _ (List.mem_of_getElem? (i := 168) rfl) rfl
theorem q2_169 : (Cond.instanceMethod yX0_told : Cond) ∈ lw_w := tb2 _ (List.mem_of_getElem? (i := 169) rfl) rfl
theorem q2_170 : (Cond.selects RX0 yX0_told yX0_told : Cond) ∈ lw_w := tb2 _ (List.mem_of_getElem? (i := 170) rfl) rfl
theorem q2_171 : (Cond.code yX0_told cX0_told 3 (some .int) : Cond) ∈ lw_w := tb2 _ (List.mem_of_getElem? (i := 171) rfl) rfl
theorem q2_172 : (Cond.methodLink RX0 30 yX0_canGive : Cond) ∈ lw_w := tb2 _ (List.mem_of_getElem? (i := 172) rfl) rfl
theorem q2_173 : (Cond.instanceMethod yX0_canGive : Cond) ∈ lw_w := tb2 _ (List.mem_of_getElem? (i := 173) rfl) rfl
theorem q2_174 : (Cond.selects RX0 yX0_canGive yX0_canGive : Cond) ∈ lw_w := tb2 _ (List.mem_of_getElem? (i := 174) rfl) rfl
theorem q2_175 : (Cond.code yX0_canGive cX0_canGive 2 (some .int) : Cond) ∈ lw_w := tb2 _ (List.mem_of_getElem? (i := 175) rfl) rfl
theorem q2_176 : (Cond.methodLink RX0 40 Lib.Math.min.name : Cond) ∈ lw_w := tb2 _ (List.mem_of_getElem? (i := 176) rfl) rfl
theorem q2_177 : (Cond.methodLink RX6 143 yX0_change : Cond) ∈ lw_w := tb2 _ (List.mem_of_getElem? (i := 177) rfl) rfl
theorem q2_178 : (Cond.instanceMethod yX0_change : Cond) ∈ lw_w := tb2 _ (List.mem_of_getElem? (i := 178) rfl) rfl
theorem q2_179 : (Cond.selects RX0 yX0_change yX0_change : Cond) ∈ lw_w := tb2 _ (List.mem_of_getElem? (i := 179) rfl) rfl
theorem q2_180 : (Cond.code yX0_change cX0_change 4 none : Cond) ∈ lw_w := tb2 _ (List.mem_of_getElem? (i := 180) rfl) rfl
theorem q2_181 : (Cond.methodLink RX6 147 yX0_discardExcess : Cond) ∈ lw_w := tb2 _ (List.mem_of_getElem? (i := 181) rfl) rfl
theorem q2_182 : (Cond.instanceMethod yX0_discardExcess : Cond) ∈ lw_w := tb2 _ (List.mem_of_getElem? (i := 182) rfl) rfl
theorem q2_183 : (Cond.selects RX0 yX0_discardExcess yX0_discardExcess : Cond) ∈ lw_w := tb2 _ (List.mem_of_getElem? (i := 183) rfl) rfl
theorem q2_184 : (Cond.code yX0_discardExcess cX0_discardExcess 3 (some .int) : Cond) ∈ lw_w := tb2 _ (List.mem_of_getElem? (i := 184) rfl) rfl
theorem q2_185 : (Cond.methodLink RX0 34 Lib.Math.max.name : Cond) ∈ lw_w := tb2 _ (List.mem_of_getElem? (i := 185) rfl) rfl
theorem q2_186 : (Cond.static Lib.Math.max.name : Cond) ∈ lw_w := tb2 _ (List.mem_of_getElem? (i := 186) rfl) rfl
theorem q2_187 : (Cond.code Lib.Math.max.name Lib.Math.max.code 2 (some .int) : Cond) ∈ lw_w := tb2 _ (List.mem_of_getElem? (i := 187) rfl) rfl
theorem q4_170 : (Cond.methodLink RL 52 yX7_setBattery : Cond) ∈ lw_w := tb4 _ (List.mem_of_getElem? (i := 170) rfl) rfl
theorem q4_171 : (Cond.instanceMethod yX7_setBattery : Cond) ∈ lw_w := tb4 _ (List.mem_of_getElem? (i := 171) rfl) rfl
theorem q4_172 : (Cond.selects RX7 yX7_setBattery yX7_setBattery : Cond) ∈ lw_w := tb4 _ (List.mem_of_getElem? (i := 172) rfl) rfl
theorem q4_173 : (Cond.code yX7_setBattery cX7_setBattery 7 (some .int) : Cond) ∈ lw_w := tb4 _ (List.mem_of_getElem? (i := 173) rfl) rfl
theorem q4_174 : (Cond.methodLink RX7 96 yX7_isBattery : Cond) ∈ lw_w := tb4 _ (List.mem_of_getElem? (i := 174) rfl) rfl
theorem q4_175 : (Cond.static yX7_isBattery : Cond) ∈ lw_w := tb4 _ (List.mem_of_getElem? (i := 175) rfl) rfl
theorem q4_176 : (Cond.code yX7_isBattery cX7_isBattery 2 (some .boolean) : Cond) ∈ lw_w := tb4 _ (List.mem_of_getElem? (i := 176) rfl) rfl
theorem q2_188 : (Cond.methodLink RL 53 yX6_run : Cond) ∈ lw_w := tb2 _ (List.mem_of_getElem? (i := 188) rfl) rfl
theorem q2_189 : (Cond.instanceMethod yX6_run : Cond) ∈ lw_w := tb2 _ (List.mem_of_getElem? (i := 189) rfl) rfl
theorem q2_190 : (Cond.selects RX6 yX6_run yX6_run : Cond) ∈ lw_w := tb2 _ (List.mem_of_getElem? (i := 190) rfl) rfl
theorem q2_191 : (Cond.code yX6_run cX6_run 3 (some .int) : Cond) ∈ lw_w := tb2 _ (List.mem_of_getElem? (i := 191) rfl) rfl
theorem q2_192 : (Cond.methodLink RX6 151 yX5_passHours : Cond) ∈ lw_w := tb2 _ (List.mem_of_getElem? (i := 192) rfl) rfl
theorem q2_193 : (Cond.instanceMethod yX5_passHours : Cond) ∈ lw_w := tb2 _ (List.mem_of_getElem? (i := 193) rfl) rfl
theorem q2_194 : (Cond.selects RX5 yX5_passHours yX5_passHours : Cond) ∈ lw_w := tb2 _ (List.mem_of_getElem? (i := 194) rfl) rfl
theorem q2_195 : (Cond.code yX5_passHours cX5_passHours 3 none : Cond) ∈ lw_w := tb2 _ (List.mem_of_getElem? (i := 195) rfl) rfl
theorem q2_196 : (Cond.methodLink RX5 125 yX5_passHour : Cond) ∈ lw_w := tb2 _ (List.mem_of_getElem? (i := 196) rfl) rfl
theorem q2_198 : (Cond.instanceMethod yX5_passHour : Cond) ∈ lw_w := tb2 _ (List.mem_of_getElem? (i := 198) rfl) rfl
theorem qs7 : (Cond.selects RX5 yX5_passHour yX5_passHour : Cond) ∈ lw_w := List.mem_filter.mpr ⟨List.mem_append_left _ (List.mem_of_getElem? (i := 7) rfl), rfl⟩
theorem q2_199 : (Cond.code yX5_passHour cX5_passHour 4 none : Cond) ∈ lw_w := tb2 _ (List.mem_of_getElem? (i := 199) rfl) rfl
theorem q2_200 : (Cond.methodLink RX5 131 yX5_supplyOf : Cond) ∈ lw_w := tb2 _ (List.mem_of_getElem? (i := 200) rfl) rfl
theorem q2_201 : (Cond.instanceMethod yX5_supplyOf : Cond) ∈ lw_w := tb2 _ (List.mem_of_getElem? (i := 201) rfl) rfl
theorem q2_202 : (Cond.selects RX5 yX5_supplyOf yX5_supplyOf : Cond) ∈ lw_w := tb2 _ (List.mem_of_getElem? (i := 202) rfl) rfl
theorem q2_203 : (Cond.code yX5_supplyOf cX5_supplyOf 2 (some .int) : Cond) ∈ lw_w := tb2 _ (List.mem_of_getElem? (i := 203) rfl) rfl
theorem q2_204 : (Cond.methodLink RX5 78 yJ9_floorMod_7cf53 : Cond) ∈ lw_w := tb2 _ (List.mem_of_getElem? (i := 204) rfl) rfl
theorem q2_205 : (Cond.static yJ9_floorMod_7cf53 : Cond) ∈ lw_w := tb2 _ (List.mem_of_getElem? (i := 205) rfl) rfl
theorem q2_206 : (Cond.code yJ9_floorMod_7cf53 cJ9_floorMod_7cf53 3 (some .int) : Cond) ∈ lw_w := tb2 _ (List.mem_of_getElem? (i := 206) rfl) rfl
theorem q2_207 : (Cond.methodLink RX5 134 yX0_canGiveAll : Cond) ∈ lw_w := tb2 _ (List.mem_of_getElem? (i := 207) rfl) rfl
theorem q2_208 : (Cond.instanceMethod yX0_canGiveAll : Cond) ∈ lw_w := tb2 _ (List.mem_of_getElem? (i := 208) rfl) rfl
theorem q2_209 : (Cond.selects RX0 yX0_canGiveAll yX0_canGiveAll : Cond) ∈ lw_w := tb2 _ (List.mem_of_getElem? (i := 209) rfl) rfl
theorem q2_210 : (Cond.code yX0_canGiveAll cX0_canGiveAll 1 (some .int) : Cond) ∈ lw_w := tb2 _ (List.mem_of_getElem? (i := 210) rfl) rfl
theorem q2_211 : (Cond.methodLink RX5 138 yX2_wantAll : Cond) ∈ lw_w := tb2 _ (List.mem_of_getElem? (i := 211) rfl) rfl
theorem q2_212 : (Cond.instanceMethod yX2_wantAll : Cond) ∈ lw_w := tb2 _ (List.mem_of_getElem? (i := 212) rfl) rfl
theorem q2_213 : (Cond.selects RX2 yX2_wantAll yX2_wantAll : Cond) ∈ lw_w := tb2 _ (List.mem_of_getElem? (i := 213) rfl) rfl
theorem q2_214 : (Cond.code yX2_wantAll cX2_wantAll 3 none : Cond) ∈ lw_w := tb2 _ (List.mem_of_getElem? (i := 214) rfl) rfl
theorem q2_215 : (Cond.methodLink RX2 61 yX2_canDraw : Cond) ∈ lw_w := tb2 _ (List.mem_of_getElem? (i := 215) rfl) rfl
theorem q2_216 : (Cond.instanceMethod yX2_canDraw : Cond) ∈ lw_w := tb2 _ (List.mem_of_getElem? (i := 216) rfl) rfl
theorem q2_217 : (Cond.selects RX2 yX2_canDraw yX2_canDraw : Cond) ∈ lw_w := tb2 _ (List.mem_of_getElem? (i := 217) rfl) rfl
theorem q2_218 : (Cond.code yX2_canDraw cX2_canDraw 3 (some .int) : Cond) ∈ lw_w := tb2 _ (List.mem_of_getElem? (i := 218) rfl) rfl
theorem q2_219 : (Cond.methodLink RX2 52 Lib.Math.min.name : Cond) ∈ lw_w := tb2 _ (List.mem_of_getElem? (i := 219) rfl) rfl
theorem q2_220 : (Cond.methodLink RX2 58 Lib.Math.max.name : Cond) ∈ lw_w := tb2 _ (List.mem_of_getElem? (i := 220) rfl) rfl
theorem q2_221 : (Cond.methodLink RX5 142 yX5_shed : Cond) ∈ lw_w := tb2 _ (List.mem_of_getElem? (i := 221) rfl) rfl
theorem q2_223 : (Cond.instanceMethod yX5_shed : Cond) ∈ lw_w := tb2 _ (List.mem_of_getElem? (i := 223) rfl) rfl
theorem qs8 : (Cond.selects RX5 yX5_shed yX5_shed : Cond) ∈ lw_w := List.mem_filter.mpr ⟨List.mem_append_left _ (List.mem_of_getElem? (i := 8) rfl), rfl⟩
theorem q2_224 : (Cond.code yX5_shed cX5_shed 3 none : Cond) ∈ lw_w := tb2 _ (List.mem_of_getElem? (i := 224) rfl) rfl
theorem q1_53 : (Cond.fieldLink RX5 154 "MeterPool$Houses" "wants" "[I" : Cond) ∈ lw_w := tb1 _ (List.mem_of_getElem? (i := 53) rfl) rfl
theorem q2_225 : (Cond.methodLink RX5 157 yX2_sum : Cond) ∈ lw_w := tb2 _ (List.mem_of_getElem? (i := 225) rfl) rfl
theorem q2_226 : (Cond.instanceMethod yX2_sum : Cond) ∈ lw_w := tb2 _ (List.mem_of_getElem? (i := 226) rfl) rfl
theorem q2_227 : (Cond.selects RX2 yX2_sum yX2_sum : Cond) ∈ lw_w := tb2 _ (List.mem_of_getElem? (i := 227) rfl) rfl
theorem q2_228 : (Cond.code yX2_sum cX2_sum 4 (some .int) : Cond) ∈ lw_w := tb2 _ (List.mem_of_getElem? (i := 228) rfl) rfl
theorem q2_229 : (Cond.methodLink RX5 161 yX2_sumFrom : Cond) ∈ lw_w := tb2 _ (List.mem_of_getElem? (i := 229) rfl) rfl
theorem q2_230 : (Cond.instanceMethod yX2_sumFrom : Cond) ∈ lw_w := tb2 _ (List.mem_of_getElem? (i := 230) rfl) rfl
theorem q2_231 : (Cond.selects RX2 yX2_sumFrom yX2_sumFrom : Cond) ∈ lw_w := tb2 _ (List.mem_of_getElem? (i := 231) rfl) rfl
theorem q2_232 : (Cond.code yX2_sumFrom cX2_sumFrom 5 (some .int) : Cond) ∈ lw_w := tb2 _ (List.mem_of_getElem? (i := 232) rfl) rfl
theorem q2_233 : (Cond.methodLink RX5 165 yX2_wantNothing : Cond) ∈ lw_w := tb2 _ (List.mem_of_getElem? (i := 233) rfl) rfl
theorem q2_234 : (Cond.instanceMethod yX2_wantNothing : Cond) ∈ lw_w := tb2 _ (List.mem_of_getElem? (i := 234) rfl) rfl
theorem q2_235 : (Cond.selects RX2 yX2_wantNothing yX2_wantNothing : Cond) ∈ lw_w := tb2 _ (List.mem_of_getElem? (i := 235) rfl) rfl
theorem q2_236 : (Cond.code yX2_wantNothing cX2_wantNothing 3 none : Cond) ∈ lw_w := tb2 _ (List.mem_of_getElem? (i := 236) rfl) rfl
theorem q2_237 : (Cond.methodLink RX5 145 yX5_serve : Cond) ∈ lw_w := tb2 _ (List.mem_of_getElem? (i := 237) rfl) rfl
theorem q2_239 : (Cond.instanceMethod yX5_serve : Cond) ∈ lw_w := tb2 _ (List.mem_of_getElem? (i := 239) rfl) rfl
theorem qs9 : (Cond.selects RX5 yX5_serve yX5_serve : Cond) ∈ lw_w := List.mem_filter.mpr ⟨List.mem_append_left _ (List.mem_of_getElem? (i := 9) rfl), rfl⟩
theorem q3_0 : (Cond.code yX5_serve cX5_serve 6 (some .int) : Cond) ∈ lw_w := tb3 _ (List.mem_of_getElem? (i := 0) rfl) rfl
theorem q1_34 : (Cond.fieldLink RX5 168 "MeterPool$Houses" "size" "I" : Cond) ∈ lw_w := tb1 _ (List.mem_of_getElem? (i := 34) rfl) rfl
theorem q1_36 : (Cond.fieldLink RX5 169 "MeterPool$Houses" "feeder" "[I" : Cond) ∈ lw_w := tb1 _ (List.mem_of_getElem? (i := 36) rfl) rfl
theorem q3_1 : (Cond.methodLink RX5 172 yX5_partOf : Cond) ∈ lw_w := tb3 _ (List.mem_of_getElem? (i := 1) rfl) rfl
theorem q3_3 : (Cond.instanceMethod yX5_partOf : Cond) ∈ lw_w := tb3 _ (List.mem_of_getElem? (i := 3) rfl) rfl
theorem qs10 : (Cond.selects RX5 yX5_partOf yX5_partOf : Cond) ∈ lw_w := List.mem_filter.mpr ⟨List.mem_append_left _ (List.mem_of_getElem? (i := 10) rfl), rfl⟩
theorem q3_4 : (Cond.code yX5_partOf cX5_partOf 3 (some .int) : Cond) ∈ lw_w := tb3 _ (List.mem_of_getElem? (i := 4) rfl) rfl
theorem q3_5 : (Cond.methodLink RX5 175 yX2_receive : Cond) ∈ lw_w := tb3 _ (List.mem_of_getElem? (i := 5) rfl) rfl
theorem q3_6 : (Cond.instanceMethod yX2_receive : Cond) ∈ lw_w := tb3 _ (List.mem_of_getElem? (i := 6) rfl) rfl
theorem q3_7 : (Cond.selects RX2 yX2_receive yX2_receive : Cond) ∈ lw_w := tb3 _ (List.mem_of_getElem? (i := 7) rfl) rfl
theorem q3_8 : (Cond.code yX2_receive cX2_receive 4 none : Cond) ∈ lw_w := tb3 _ (List.mem_of_getElem? (i := 8) rfl) rfl
theorem q3_9 : (Cond.methodLink RX2 64 yX2_reasonOf : Cond) ∈ lw_w := tb3 _ (List.mem_of_getElem? (i := 9) rfl) rfl
theorem q3_11 : (Cond.instanceMethod yX2_reasonOf : Cond) ∈ lw_w := tb3 _ (List.mem_of_getElem? (i := 11) rfl) rfl
theorem qs11 : (Cond.selects RX2 yX2_reasonOf yX2_reasonOf : Cond) ∈ lw_w := List.mem_filter.mpr ⟨List.mem_append_left _ (List.mem_of_getElem? (i := 11) rfl), rfl⟩
theorem q3_12 : (Cond.code yX2_reasonOf cX2_reasonOf 3 (some .int) : Cond) ∈ lw_w := tb3 _ (List.mem_of_getElem? (i := 12) rfl) rfl
theorem q3_13 : (Cond.methodLink RX5 148 yX0_give : Cond) ∈ lw_w := tb3 _ (List.mem_of_getElem? (i := 13) rfl) rfl
theorem q3_14 : (Cond.instanceMethod yX0_give : Cond) ∈ lw_w := tb3 _ (List.mem_of_getElem? (i := 14) rfl) rfl
theorem q3_15 : (Cond.selects RX0 yX0_give yX0_give : Cond) ∈ lw_w := tb3 _ (List.mem_of_getElem? (i := 15) rfl) rfl
theorem q3_16 : (Cond.code yX0_give cX0_give 5 none : Cond) ∈ lw_w := tb3 _ (List.mem_of_getElem? (i := 16) rfl) rfl
theorem q3_17 : (Cond.methodLink RX5 151 yX5_store : Cond) ∈ lw_w := tb3 _ (List.mem_of_getElem? (i := 17) rfl) rfl
theorem q3_19 : (Cond.instanceMethod yX5_store : Cond) ∈ lw_w := tb3 _ (List.mem_of_getElem? (i := 19) rfl) rfl
theorem qs12 : (Cond.selects RX5 yX5_store yX5_store : Cond) ∈ lw_w := List.mem_filter.mpr ⟨List.mem_append_left _ (List.mem_of_getElem? (i := 12) rfl), rfl⟩
theorem q3_20 : (Cond.code yX5_store cX5_store 5 none : Cond) ∈ lw_w := tb3 _ (List.mem_of_getElem? (i := 20) rfl) rfl
theorem q3_21 : (Cond.methodLink RX5 179 yX0_canTake : Cond) ∈ lw_w := tb3 _ (List.mem_of_getElem? (i := 21) rfl) rfl
theorem q3_22 : (Cond.instanceMethod yX0_canTake : Cond) ∈ lw_w := tb3 _ (List.mem_of_getElem? (i := 22) rfl) rfl
theorem q3_23 : (Cond.selects RX0 yX0_canTake yX0_canTake : Cond) ∈ lw_w := tb3 _ (List.mem_of_getElem? (i := 23) rfl) rfl
theorem q3_24 : (Cond.code yX0_canTake cX0_canTake 6 (some .int) : Cond) ∈ lw_w := tb3 _ (List.mem_of_getElem? (i := 24) rfl) rfl
theorem q3_25 : (Cond.methodLink RX5 182 yX0_takeIn : Cond) ∈ lw_w := tb3 _ (List.mem_of_getElem? (i := 25) rfl) rfl
theorem q3_26 : (Cond.instanceMethod yX0_takeIn : Cond) ∈ lw_w := tb3 _ (List.mem_of_getElem? (i := 26) rfl) rfl
theorem q3_27 : (Cond.selects RX0 yX0_takeIn yX0_takeIn : Cond) ∈ lw_w := tb3 _ (List.mem_of_getElem? (i := 27) rfl) rfl
theorem q3_28 : (Cond.code yX0_takeIn cX0_takeIn 4 (some .int) : Cond) ∈ lw_w := tb3 _ (List.mem_of_getElem? (i := 28) rfl) rfl
theorem q4_177 : (Cond.methodLink RL 56 yX7_run : Cond) ∈ lw_w := tb4 _ (List.mem_of_getElem? (i := 177) rfl) rfl
theorem q4_178 : (Cond.instanceMethod yX7_run : Cond) ∈ lw_w := tb4 _ (List.mem_of_getElem? (i := 178) rfl) rfl
theorem q4_179 : (Cond.selects RX7 yX7_run yX7_run : Cond) ∈ lw_w := tb4 _ (List.mem_of_getElem? (i := 179) rfl) rfl
theorem q4_180 : (Cond.code yX7_run cX7_run 4 (some .int) : Cond) ∈ lw_w := tb4 _ (List.mem_of_getElem? (i := 180) rfl) rfl
theorem q4_181 : (Cond.methodLink RX7 130 yX7_pass : Cond) ∈ lw_w := tb4 _ (List.mem_of_getElem? (i := 181) rfl) rfl
theorem q4_183 : (Cond.instanceMethod yX7_pass : Cond) ∈ lw_w := tb4 _ (List.mem_of_getElem? (i := 183) rfl) rfl
theorem qs41 : (Cond.selects RX7 yX7_pass yX7_pass : Cond) ∈ lw_w := List.mem_filter.mpr ⟨List.mem_append_left _ (List.mem_of_getElem? (i := 41) rfl), rfl⟩
theorem q4_184 : (Cond.code yX7_pass cX7_pass 5 none : Cond) ∈ lw_w := tb4 _ (List.mem_of_getElem? (i := 184) rfl) rfl
theorem q4_185 : (Cond.methodLink RX7 108 yX7_supplyAt : Cond) ∈ lw_w := tb4 _ (List.mem_of_getElem? (i := 185) rfl) rfl
theorem q4_187 : (Cond.instanceMethod yX7_supplyAt : Cond) ∈ lw_w := tb4 _ (List.mem_of_getElem? (i := 187) rfl) rfl
theorem qs42 : (Cond.selects RX7 yX7_supplyAt yX7_supplyAt : Cond) ∈ lw_w := List.mem_filter.mpr ⟨List.mem_append_left _ (List.mem_of_getElem? (i := 42) rfl), rfl⟩
theorem q4_188 : (Cond.code yX7_supplyAt cX7_supplyAt 2 (some .int) : Cond) ∈ lw_w := tb4 _ (List.mem_of_getElem? (i := 188) rfl) rfl
theorem q4_189 : (Cond.methodLink RX7 105 yX7_canGive : Cond) ∈ lw_w := tb4 _ (List.mem_of_getElem? (i := 189) rfl) rfl
theorem q4_191 : (Cond.instanceMethod yX7_canGive : Cond) ∈ lw_w := tb4 _ (List.mem_of_getElem? (i := 191) rfl) rfl
theorem qs43 : (Cond.selects RX7 yX7_canGive yX7_canGive : Cond) ∈ lw_w := List.mem_filter.mpr ⟨List.mem_append_left _ (List.mem_of_getElem? (i := 43) rfl), rfl⟩
theorem q4_192 : (Cond.code yX7_canGive cX7_canGive 2 (some .int) : Cond) ∈ lw_w := tb4 _ (List.mem_of_getElem? (i := 192) rfl) rfl
theorem q4_193 : (Cond.methodLink RX7 99 yX7_cell : Cond) ∈ lw_w := tb4 _ (List.mem_of_getElem? (i := 193) rfl) rfl
theorem q4_195 : (Cond.instanceMethod yX7_cell : Cond) ∈ lw_w := tb4 _ (List.mem_of_getElem? (i := 195) rfl) rfl
theorem qs44 : (Cond.selects RX7 yX7_cell yX7_cell : Cond) ∈ lw_w := List.mem_filter.mpr ⟨List.mem_append_left _ (List.mem_of_getElem? (i := 44) rfl), rfl⟩
theorem q4_196 : (Cond.code yX7_cell cX7_cell 3 (some .int) : Cond) ∈ lw_w := tb4 _ (List.mem_of_getElem? (i := 196) rfl) rfl
theorem q4_197 : (Cond.methodLink RX7 102 yX7_canDraw : Cond) ∈ lw_w := tb4 _ (List.mem_of_getElem? (i := 197) rfl) rfl
theorem q4_199 : (Cond.instanceMethod yX7_canDraw : Cond) ∈ lw_w := tb4 _ (List.mem_of_getElem? (i := 199) rfl) rfl
theorem qs45 : (Cond.selects RX7 yX7_canDraw yX7_canDraw : Cond) ∈ lw_w := List.mem_filter.mpr ⟨List.mem_append_left _ (List.mem_of_getElem? (i := 45) rfl), rfl⟩
theorem q4_200 : (Cond.code yX7_canDraw cX7_canDraw 4 (some .int) : Cond) ∈ lw_w := tb4 _ (List.mem_of_getElem? (i := 200) rfl) rfl
theorem q4_201 : (Cond.methodLink RX7 111 yX7_wanted : Cond) ∈ lw_w := tb4 _ (List.mem_of_getElem? (i := 201) rfl) rfl
theorem q4_203 : (Cond.instanceMethod yX7_wanted : Cond) ∈ lw_w := tb4 _ (List.mem_of_getElem? (i := 203) rfl) rfl
theorem qs46 : (Cond.selects RX7 yX7_wanted yX7_wanted : Cond) ∈ lw_w := List.mem_filter.mpr ⟨List.mem_append_left _ (List.mem_of_getElem? (i := 46) rfl), rfl⟩
theorem q4_204 : (Cond.code yX7_wanted cX7_wanted 3 (some .int) : Cond) ∈ lw_w := tb4 _ (List.mem_of_getElem? (i := 204) rfl) rfl
theorem q4_205 : (Cond.methodLink RX7 114 yX7_shed : Cond) ∈ lw_w := tb4 _ (List.mem_of_getElem? (i := 205) rfl) rfl
theorem q4_207 : (Cond.instanceMethod yX7_shed : Cond) ∈ lw_w := tb4 _ (List.mem_of_getElem? (i := 207) rfl) rfl
theorem qs47 : (Cond.selects RX7 yX7_shed yX7_shed : Cond) ∈ lw_w := List.mem_filter.mpr ⟨List.mem_append_left _ (List.mem_of_getElem? (i := 47) rfl), rfl⟩
theorem q4_208 : (Cond.code yX7_shed cX7_shed 4 none : Cond) ∈ lw_w := tb4 _ (List.mem_of_getElem? (i := 208) rfl) rfl
theorem q4_209 : (Cond.methodLink RX7 117 yX7_serve : Cond) ∈ lw_w := tb4 _ (List.mem_of_getElem? (i := 209) rfl) rfl
theorem q4_211 : (Cond.instanceMethod yX7_serve : Cond) ∈ lw_w := tb4 _ (List.mem_of_getElem? (i := 211) rfl) rfl
theorem qs48 : (Cond.selects RX7 yX7_serve yX7_serve : Cond) ∈ lw_w := List.mem_filter.mpr ⟨List.mem_append_left _ (List.mem_of_getElem? (i := 48) rfl), rfl⟩
theorem q4_212 : (Cond.code yX7_serve cX7_serve 6 (some .int) : Cond) ∈ lw_w := tb4 _ (List.mem_of_getElem? (i := 212) rfl) rfl
theorem q4_213 : (Cond.methodLink RX7 120 yX7_why : Cond) ∈ lw_w := tb4 _ (List.mem_of_getElem? (i := 213) rfl) rfl
theorem q4_215 : (Cond.instanceMethod yX7_why : Cond) ∈ lw_w := tb4 _ (List.mem_of_getElem? (i := 215) rfl) rfl
theorem qs49 : (Cond.selects RX7 yX7_why yX7_why : Cond) ∈ lw_w := List.mem_filter.mpr ⟨List.mem_append_left _ (List.mem_of_getElem? (i := 49) rfl), rfl⟩
theorem q4_216 : (Cond.code yX7_why cX7_why 2 (some .int) : Cond) ∈ lw_w := tb4 _ (List.mem_of_getElem? (i := 216) rfl) rfl
theorem q4_217 : (Cond.methodLink RX7 123 yX7_take : Cond) ∈ lw_w := tb4 _ (List.mem_of_getElem? (i := 217) rfl) rfl
theorem q4_219 : (Cond.instanceMethod yX7_take : Cond) ∈ lw_w := tb4 _ (List.mem_of_getElem? (i := 219) rfl) rfl
theorem qs50 : (Cond.selects RX7 yX7_take yX7_take : Cond) ∈ lw_w := List.mem_filter.mpr ⟨List.mem_append_left _ (List.mem_of_getElem? (i := 50) rfl), rfl⟩
theorem q4_220 : (Cond.code yX7_take cX7_take 5 none : Cond) ∈ lw_w := tb4 _ (List.mem_of_getElem? (i := 220) rfl) rfl
theorem q4_221 : (Cond.methodLink RX7 127 yX7_charge : Cond) ∈ lw_w := tb4 _ (List.mem_of_getElem? (i := 221) rfl) rfl
theorem q4_223 : (Cond.instanceMethod yX7_charge : Cond) ∈ lw_w := tb4 _ (List.mem_of_getElem? (i := 223) rfl) rfl
theorem qs51 : (Cond.selects RX7 yX7_charge yX7_charge : Cond) ∈ lw_w := List.mem_filter.mpr ⟨List.mem_append_left _ (List.mem_of_getElem? (i := 51) rfl), rfl⟩
theorem q4_224 : (Cond.code yX7_charge cX7_charge 6 none : Cond) ∈ lw_w := tb4 _ (List.mem_of_getElem? (i := 224) rfl) rfl
theorem q3_29 : (Cond.methodLink RL 57 yX6_type : Cond) ∈ lw_w := tb3 _ (List.mem_of_getElem? (i := 29) rfl) rfl
theorem q3_30 : (Cond.instanceMethod yX6_type : Cond) ∈ lw_w := tb3 _ (List.mem_of_getElem? (i := 30) rfl) rfl
theorem q3_31 : (Cond.selects RX6 yX6_type yX6_type : Cond) ∈ lw_w := tb3 _ (List.mem_of_getElem? (i := 31) rfl) rfl
theorem q3_32 : (Cond.code yX6_type cX6_type 2 (some .int) : Cond) ∈ lw_w := tb3 _ (List.mem_of_getElem? (i := 32) rfl) rfl
theorem q1_190 : (Cond.fieldLink RX6 154 "MeterPool$ListText" "length" "I" : Cond) ∈ lw_w := tb1 _ (List.mem_of_getElem? (i := 190) rfl) rfl
theorem q3_33 : (Cond.methodLink RX6 157 yX3_append : Cond) ∈ lw_w := tb3 _ (List.mem_of_getElem? (i := 33) rfl) rfl
theorem q3_34 : (Cond.instanceMethod yX3_append : Cond) ∈ lw_w := tb3 _ (List.mem_of_getElem? (i := 34) rfl) rfl
theorem q3_35 : (Cond.selects RX3 yX3_append yX3_append : Cond) ∈ lw_w := tb3 _ (List.mem_of_getElem? (i := 35) rfl) rfl
theorem q3_36 : (Cond.code yX3_append cX3_append 2 none : Cond) ∈ lw_w := tb3 _ (List.mem_of_getElem? (i := 36) rfl) rfl
theorem q1_189 : (Cond.fieldLink RX3 18 "MeterPool$ListText" "length" "I" : Cond) ∈ lw_w := tb1 _ (List.mem_of_getElem? (i := 189) rfl) rfl
theorem q4_225 : (Cond.methodLink RL 60 yX7_type : Cond) ∈ lw_w := tb4 _ (List.mem_of_getElem? (i := 225) rfl) rfl
theorem q4_226 : (Cond.instanceMethod yX7_type : Cond) ∈ lw_w := tb4 _ (List.mem_of_getElem? (i := 226) rfl) rfl
theorem q4_227 : (Cond.selects RX7 yX7_type yX7_type : Cond) ∈ lw_w := tb4 _ (List.mem_of_getElem? (i := 227) rfl) rfl
theorem q4_228 : (Cond.code yX7_type cX7_type 2 (some .int) : Cond) ∈ lw_w := tb4 _ (List.mem_of_getElem? (i := 228) rfl) rfl
theorem q4_30 : (Cond.fieldLink RX7 133 "MeterPoolModel" "length" "I" : Cond) ∈ lw_w := tb4 _ (List.mem_of_getElem? (i := 30) rfl) rfl
theorem q3_37 : (Cond.methodLink RL 61 yX6_clear : Cond) ∈ lw_w := tb3 _ (List.mem_of_getElem? (i := 37) rfl) rfl
theorem q3_38 : (Cond.instanceMethod yX6_clear : Cond) ∈ lw_w := tb3 _ (List.mem_of_getElem? (i := 38) rfl) rfl
theorem q3_39 : (Cond.selects RX6 yX6_clear yX6_clear : Cond) ∈ lw_w := tb3 _ (List.mem_of_getElem? (i := 39) rfl) rfl
theorem q3_40 : (Cond.code yX6_clear cX6_clear 2 (some .int) : Cond) ∈ lw_w := tb3 _ (List.mem_of_getElem? (i := 40) rfl) rfl
theorem q4_229 : (Cond.methodLink RL 64 yX7_clear : Cond) ∈ lw_w := tb4 _ (List.mem_of_getElem? (i := 229) rfl) rfl
theorem q4_230 : (Cond.instanceMethod yX7_clear : Cond) ∈ lw_w := tb4 _ (List.mem_of_getElem? (i := 230) rfl) rfl
theorem q4_231 : (Cond.selects RX7 yX7_clear yX7_clear : Cond) ∈ lw_w := tb4 _ (List.mem_of_getElem? (i := 231) rfl) rfl
theorem q4_232 : (Cond.code yX7_clear cX7_clear 2 (some .int) : Cond) ∈ lw_w := tb4 _ (List.mem_of_getElem? (i := 232) rfl) rfl
theorem q3_41 : (Cond.methodLink RL 65 yX6_fault : Cond) ∈ lw_w := tb3 _ (List.mem_of_getElem? (i := 41) rfl) rfl
theorem q3_42 : (Cond.instanceMethod yX6_fault : Cond) ∈ lw_w := tb3 _ (List.mem_of_getElem? (i := 42) rfl) rfl
theorem q3_43 : (Cond.selects RX6 yX6_fault yX6_fault : Cond) ∈ lw_w := tb3 _ (List.mem_of_getElem? (i := 43) rfl) rfl
theorem q3_44 : (Cond.code yX6_fault cX6_fault 1 (some .int) : Cond) ∈ lw_w := tb3 _ (List.mem_of_getElem? (i := 44) rfl) rfl
theorem q3_45 : (Cond.methodLink RX6 160 yX3_firstFault : Cond) ∈ lw_w := tb3 _ (List.mem_of_getElem? (i := 45) rfl) rfl
theorem q3_46 : (Cond.instanceMethod yX3_firstFault : Cond) ∈ lw_w := tb3 _ (List.mem_of_getElem? (i := 46) rfl) rfl
theorem q3_47 : (Cond.selects RX3 yX3_firstFault yX3_firstFault : Cond) ∈ lw_w := tb3 _ (List.mem_of_getElem? (i := 47) rfl) rfl
theorem q3_48 : (Cond.code yX3_firstFault cX3_firstFault 3 (some .int) : Cond) ∈ lw_w := tb3 _ (List.mem_of_getElem? (i := 48) rfl) rfl
theorem q1_193 : (Cond.fieldLink RX3 22 "MeterPool$ListText" "size" "I" : Cond) ∈ lw_w := tb1 _ (List.mem_of_getElem? (i := 193) rfl) rfl
theorem q3_81 : (Cond.constant RX3 37 (-1000001) : Cond) ∈ lw_w := tb3 _ (List.mem_of_getElem? (i := 81) rfl) rfl
theorem q3_49 : (Cond.methodLink RX3 25 yX3_next : Cond) ∈ lw_w := tb3 _ (List.mem_of_getElem? (i := 49) rfl) rfl
theorem q3_51 : (Cond.instanceMethod yX3_next : Cond) ∈ lw_w := tb3 _ (List.mem_of_getElem? (i := 51) rfl) rfl
theorem qs13 : (Cond.selects RX3 yX3_next yX3_next : Cond) ∈ lw_w := List.mem_filter.mpr ⟨List.mem_append_left _ (List.mem_of_getElem? (i := 13) rfl), rfl⟩
theorem q3_52 : (Cond.code yX3_next cX3_next 3 (some .int) : Cond) ∈ lw_w := tb3 _ (List.mem_of_getElem? (i := 52) rfl) rfl
theorem q3_53 : (Cond.methodLink RX3 38 yX3_beginNumber : Cond) ∈ lw_w := tb3 _ (List.mem_of_getElem? (i := 53) rfl) rfl
theorem q3_55 : (Cond.instanceMethod yX3_beginNumber : Cond) ∈ lw_w := tb3 _ (List.mem_of_getElem? (i := 55) rfl) rfl
theorem qs14 : (Cond.selects RX3 yX3_beginNumber yX3_beginNumber : Cond) ∈ lw_w := List.mem_filter.mpr ⟨List.mem_append_left _ (List.mem_of_getElem? (i := 14) rfl), rfl⟩
theorem q3_56 : (Cond.code yX3_beginNumber cX3_beginNumber 2 (some .int) : Cond) ∈ lw_w := tb3 _ (List.mem_of_getElem? (i := 56) rfl) rfl
theorem q1_197 : (Cond.fieldLink RX3 53 "MeterPool$ListText" "value" "I" : Cond) ∈ lw_w := tb1 _ (List.mem_of_getElem? (i := 197) rfl) rfl
theorem q3_57 : (Cond.methodLink RX3 50 yX3_isDigit : Cond) ∈ lw_w := tb3 _ (List.mem_of_getElem? (i := 57) rfl) rfl
theorem q3_58 : (Cond.static yX3_isDigit : Cond) ∈ lw_w := tb3 _ (List.mem_of_getElem? (i := 58) rfl) rfl
theorem q3_59 : (Cond.code yX3_isDigit cX3_isDigit 1 (some .boolean) : Cond) ∈ lw_w := tb3 _ (List.mem_of_getElem? (i := 59) rfl) rfl
theorem q3_60 : (Cond.methodLink RX3 41 yX3_inNumber : Cond) ∈ lw_w := tb3 _ (List.mem_of_getElem? (i := 60) rfl) rfl
theorem q3_62 : (Cond.instanceMethod yX3_inNumber : Cond) ∈ lw_w := tb3 _ (List.mem_of_getElem? (i := 62) rfl) rfl
theorem qs15 : (Cond.selects RX3 yX3_inNumber yX3_inNumber : Cond) ∈ lw_w := List.mem_filter.mpr ⟨List.mem_append_left _ (List.mem_of_getElem? (i := 15) rfl), rfl⟩
theorem q3_63 : (Cond.code yX3_inNumber cX3_inNumber 2 (some .int) : Cond) ∈ lw_w := tb3 _ (List.mem_of_getElem? (i := 63) rfl) rfl
theorem q3_64 : (Cond.methodLink RX3 33 yX3_endItem : Cond) ∈ lw_w := tb3 _ (List.mem_of_getElem? (i := 64) rfl) rfl
theorem q3_66 : (Cond.instanceMethod yX3_endItem : Cond) ∈ lw_w := tb3 _ (List.mem_of_getElem? (i := 66) rfl) rfl
theorem qs16 : (Cond.selects RX3 yX3_endItem yX3_endItem : Cond) ∈ lw_w := List.mem_filter.mpr ⟨List.mem_append_left _ (List.mem_of_getElem? (i := 16) rfl), rfl⟩
theorem q3_67 : (Cond.code yX3_endItem cX3_endItem 4 (some .int) : Cond) ∈ lw_w := tb3 _ (List.mem_of_getElem? (i := 67) rfl) rfl
theorem q1_198 : (Cond.fieldLink RX3 56 "MeterPool$ListText" "times" "I" : Cond) ∈ lw_w := tb1 _ (List.mem_of_getElem? (i := 198) rfl) rfl
theorem q3_68 : (Cond.methodLink RX3 59 Lib.Math.min.name : Cond) ∈ lw_w := tb3 _ (List.mem_of_getElem? (i := 68) rfl) rfl
theorem q3_69 : (Cond.methodLink RX3 44 yX3_beginTimes : Cond) ∈ lw_w := tb3 _ (List.mem_of_getElem? (i := 69) rfl) rfl
theorem q3_71 : (Cond.instanceMethod yX3_beginTimes : Cond) ∈ lw_w := tb3 _ (List.mem_of_getElem? (i := 71) rfl) rfl
theorem qs17 : (Cond.selects RX3 yX3_beginTimes yX3_beginTimes : Cond) ∈ lw_w := List.mem_filter.mpr ⟨List.mem_append_left _ (List.mem_of_getElem? (i := 17) rfl), rfl⟩
theorem q3_72 : (Cond.code yX3_beginTimes cX3_beginTimes 2 (some .int) : Cond) ∈ lw_w := tb3 _ (List.mem_of_getElem? (i := 72) rfl) rfl
theorem q3_73 : (Cond.methodLink RX3 47 yX3_inTimes : Cond) ∈ lw_w := tb3 _ (List.mem_of_getElem? (i := 73) rfl) rfl
theorem q3_75 : (Cond.instanceMethod yX3_inTimes : Cond) ∈ lw_w := tb3 _ (List.mem_of_getElem? (i := 75) rfl) rfl
theorem qs18 : (Cond.selects RX3 yX3_inTimes yX3_inTimes : Cond) ∈ lw_w := List.mem_filter.mpr ⟨List.mem_append_left _ (List.mem_of_getElem? (i := 18) rfl), rfl⟩
theorem q3_76 : (Cond.code yX3_inTimes cX3_inTimes 2 (some .int) : Cond) ∈ lw_w := tb3 _ (List.mem_of_getElem? (i := 76) rfl) rfl
theorem q3_77 : (Cond.methodLink RX3 29 yX3_isWhole : Cond) ∈ lw_w := tb3 _ (List.mem_of_getElem? (i := 77) rfl) rfl
theorem q3_79 : (Cond.instanceMethod yX3_isWhole : Cond) ∈ lw_w := tb3 _ (List.mem_of_getElem? (i := 79) rfl) rfl
theorem qs19 : (Cond.selects RX3 yX3_isWhole yX3_isWhole : Cond) ∈ lw_w := List.mem_filter.mpr ⟨List.mem_append_left _ (List.mem_of_getElem? (i := 19) rfl), rfl⟩
theorem q3_80 : (Cond.code yX3_isWhole cX3_isWhole 2 (some .boolean) : Cond) ∈ lw_w := tb3 _ (List.mem_of_getElem? (i := 80) rfl) rfl
theorem q4_233 : (Cond.methodLink RL 68 yX7_fault : Cond) ∈ lw_w := tb4 _ (List.mem_of_getElem? (i := 233) rfl) rfl
theorem q4_234 : (Cond.instanceMethod yX7_fault : Cond) ∈ lw_w := tb4 _ (List.mem_of_getElem? (i := 234) rfl) rfl
theorem q4_235 : (Cond.selects RX7 yX7_fault yX7_fault : Cond) ∈ lw_w := tb4 _ (List.mem_of_getElem? (i := 235) rfl) rfl
theorem q4_236 : (Cond.code yX7_fault cX7_fault 1 (some .int) : Cond) ∈ lw_w := tb4 _ (List.mem_of_getElem? (i := 236) rfl) rfl
theorem q4_237 : (Cond.methodLink RX7 170 yX7_faultNow : Cond) ∈ lw_w := tb4 _ (List.mem_of_getElem? (i := 237) rfl) rfl
theorem q4_239 : (Cond.instanceMethod yX7_faultNow : Cond) ∈ lw_w := tb4 _ (List.mem_of_getElem? (i := 239) rfl) rfl
theorem qs52 : (Cond.selects RX7 yX7_faultNow yX7_faultNow : Cond) ∈ lw_w := List.mem_filter.mpr ⟨List.mem_append_left _ (List.mem_of_getElem? (i := 52) rfl), rfl⟩
theorem q5_0 : (Cond.code yX7_faultNow cX7_faultNow 2 (some .int) : Cond) ∈ lw_w := tb5 _ (List.mem_of_getElem? (i := 0) rfl) rfl
theorem q4_34 : (Cond.fieldLink RX7 148 "MeterPoolModel" "listed" "I" : Cond) ∈ lw_w := tb4 _ (List.mem_of_getElem? (i := 34) rfl) rfl
theorem q5_1 : (Cond.methodLink RX7 151 yX7_beginItem : Cond) ∈ lw_w := tb5 _ (List.mem_of_getElem? (i := 1) rfl) rfl
theorem q5_3 : (Cond.instanceMethod yX7_beginItem : Cond) ∈ lw_w := tb5 _ (List.mem_of_getElem? (i := 3) rfl) rfl
theorem qs53 : (Cond.selects RX7 yX7_beginItem yX7_beginItem : Cond) ∈ lw_w := List.mem_filter.mpr ⟨List.mem_append_left _ (List.mem_of_getElem? (i := 53) rfl), rfl⟩
theorem q5_4 : (Cond.code yX7_beginItem cX7_beginItem 1 none : Cond) ∈ lw_w := tb5 _ (List.mem_of_getElem? (i := 4) rfl) rfl
theorem q4_35 : (Cond.fieldLink RX7 136 "MeterPoolModel" "number" "I" : Cond) ∈ lw_w := tb4 _ (List.mem_of_getElem? (i := 35) rfl) rfl
theorem q4_36 : (Cond.fieldLink RX7 139 "MeterPoolModel" "digits" "I" : Cond) ∈ lw_w := tb4 _ (List.mem_of_getElem? (i := 36) rfl) rfl
theorem q4_37 : (Cond.fieldLink RX7 142 "MeterPoolModel" "count" "I" : Cond) ∈ lw_w := tb4 _ (List.mem_of_getElem? (i := 37) rfl) rfl
theorem q4_38 : (Cond.fieldLink RX7 145 "MeterPoolModel" "counting" "I" : Cond) ∈ lw_w := tb4 _ (List.mem_of_getElem? (i := 38) rfl) rfl
theorem q5_5 : (Cond.methodLink RX7 167 yX7_takes : Cond) ∈ lw_w := tb5 _ (List.mem_of_getElem? (i := 5) rfl) rfl
theorem q5_7 : (Cond.instanceMethod yX7_takes : Cond) ∈ lw_w := tb5 _ (List.mem_of_getElem? (i := 7) rfl) rfl
theorem qs54 : (Cond.selects RX7 yX7_takes yX7_takes : Cond) ∈ lw_w := List.mem_filter.mpr ⟨List.mem_append_left _ (List.mem_of_getElem? (i := 54) rfl), rfl⟩
theorem q5_8 : (Cond.code yX7_takes cX7_takes 3 (some .boolean) : Cond) ∈ lw_w := tb5 _ (List.mem_of_getElem? (i := 8) rfl) rfl
theorem q5_9 : (Cond.methodLink RX7 154 yX7_isItem : Cond) ∈ lw_w := tb5 _ (List.mem_of_getElem? (i := 9) rfl) rfl
theorem q5_11 : (Cond.instanceMethod yX7_isItem : Cond) ∈ lw_w := tb5 _ (List.mem_of_getElem? (i := 11) rfl) rfl
theorem qs55 : (Cond.selects RX7 yX7_isItem yX7_isItem : Cond) ∈ lw_w := List.mem_filter.mpr ⟨List.mem_append_left _ (List.mem_of_getElem? (i := 55) rfl), rfl⟩
theorem q5_12 : (Cond.code yX7_isItem cX7_isItem 1 (some .boolean) : Cond) ∈ lw_w := tb5 _ (List.mem_of_getElem? (i := 12) rfl) rfl
theorem q5_13 : (Cond.methodLink RX7 158 yX7_endItem : Cond) ∈ lw_w := tb5 _ (List.mem_of_getElem? (i := 13) rfl) rfl
theorem q5_15 : (Cond.instanceMethod yX7_endItem : Cond) ∈ lw_w := tb5 _ (List.mem_of_getElem? (i := 15) rfl) rfl
theorem qs56 : (Cond.selects RX7 yX7_endItem yX7_endItem : Cond) ∈ lw_w := List.mem_filter.mpr ⟨List.mem_append_left _ (List.mem_of_getElem? (i := 56) rfl), rfl⟩
theorem q5_16 : (Cond.code yX7_endItem cX7_endItem 2 none : Cond) ∈ lw_w := tb5 _ (List.mem_of_getElem? (i := 16) rfl) rfl
theorem q5_17 : (Cond.methodLink RX7 161 yX7_takesDigit : Cond) ∈ lw_w := tb5 _ (List.mem_of_getElem? (i := 17) rfl) rfl
theorem q5_19 : (Cond.instanceMethod yX7_takesDigit : Cond) ∈ lw_w := tb5 _ (List.mem_of_getElem? (i := 19) rfl) rfl
theorem qs57 : (Cond.selects RX7 yX7_takesDigit yX7_takesDigit : Cond) ∈ lw_w := List.mem_filter.mpr ⟨List.mem_append_left _ (List.mem_of_getElem? (i := 57) rfl), rfl⟩
theorem q5_20 : (Cond.code yX7_takesDigit cX7_takesDigit 3 (some .boolean) : Cond) ∈ lw_w := tb5 _ (List.mem_of_getElem? (i := 20) rfl) rfl
theorem q5_21 : (Cond.methodLink RX7 164 yX7_takesCount : Cond) ∈ lw_w := tb5 _ (List.mem_of_getElem? (i := 21) rfl) rfl
theorem q5_23 : (Cond.instanceMethod yX7_takesCount : Cond) ∈ lw_w := tb5 _ (List.mem_of_getElem? (i := 23) rfl) rfl
theorem qs58 : (Cond.selects RX7 yX7_takesCount yX7_takesCount : Cond) ∈ lw_w := List.mem_filter.mpr ⟨List.mem_append_left _ (List.mem_of_getElem? (i := 58) rfl), rfl⟩
theorem q5_24 : (Cond.code yX7_takesCount cX7_takesCount 5 (some .boolean) : Cond) ∈ lw_w := tb5 _ (List.mem_of_getElem? (i := 24) rfl) rfl
theorem q3_82 : (Cond.methodLink RL 69 yX6_load : Cond) ∈ lw_w := tb3 _ (List.mem_of_getElem? (i := 82) rfl) rfl
theorem q3_83 : (Cond.instanceMethod yX6_load : Cond) ∈ lw_w := tb3 _ (List.mem_of_getElem? (i := 83) rfl) rfl
theorem q3_84 : (Cond.selects RX6 yX6_load yX6_load : Cond) ∈ lw_w := tb3 _ (List.mem_of_getElem? (i := 84) rfl) rfl
theorem q3_85 : (Cond.code yX6_load cX6_load 1 (some .int) : Cond) ∈ lw_w := tb3 _ (List.mem_of_getElem? (i := 85) rfl) rfl
theorem q3_86 : (Cond.constant RX6 163 (-1000001) : Cond) ∈ lw_w := tb3 _ (List.mem_of_getElem? (i := 86) rfl) rfl
theorem q1_196 : (Cond.fieldLink RX6 164 "MeterPool$ListText" "numbers" "[I" : Cond) ∈ lw_w := tb1 _ (List.mem_of_getElem? (i := 196) rfl) rfl
theorem q1_194 : (Cond.fieldLink RX6 167 "MeterPool$ListText" "size" "I" : Cond) ∈ lw_w := tb1 _ (List.mem_of_getElem? (i := 194) rfl) rfl
theorem q1_138 : (Cond.fieldLink RX6 172 "MeterPool$Village" "listSize" "I" : Cond) ∈ lw_w := tb1 _ (List.mem_of_getElem? (i := 138) rfl) rfl
theorem q3_87 : (Cond.methodLink RX6 168 yX5_takeList : Cond) ∈ lw_w := tb3 _ (List.mem_of_getElem? (i := 87) rfl) rfl
theorem q5_25 : (Cond.methodLink RL 72 yX7_load : Cond) ∈ lw_w := tb5 _ (List.mem_of_getElem? (i := 25) rfl) rfl
theorem q5_26 : (Cond.instanceMethod yX7_load : Cond) ∈ lw_w := tb5 _ (List.mem_of_getElem? (i := 26) rfl) rfl
theorem q5_27 : (Cond.selects RX7 yX7_load yX7_load : Cond) ∈ lw_w := tb5 _ (List.mem_of_getElem? (i := 27) rfl) rfl
theorem q5_28 : (Cond.code yX7_load cX7_load 2 (some .int) : Cond) ∈ lw_w := tb5 _ (List.mem_of_getElem? (i := 28) rfl) rfl
theorem q3_88 : (Cond.methodLink RL 73 yX6_undo : Cond) ∈ lw_w := tb3 _ (List.mem_of_getElem? (i := 88) rfl) rfl
theorem q3_89 : (Cond.instanceMethod yX6_undo : Cond) ∈ lw_w := tb3 _ (List.mem_of_getElem? (i := 89) rfl) rfl
theorem q3_90 : (Cond.selects RX6 yX6_undo yX6_undo : Cond) ∈ lw_w := tb3 _ (List.mem_of_getElem? (i := 90) rfl) rfl
theorem q3_91 : (Cond.code yX6_undo cX6_undo 1 (some .int) : Cond) ∈ lw_w := tb3 _ (List.mem_of_getElem? (i := 91) rfl) rfl
theorem q1_176 : (Cond.fieldLink RX6 175 "MeterPool$History" "size" "I" : Cond) ∈ lw_w := tb1 _ (List.mem_of_getElem? (i := 176) rfl) rfl
theorem q3_92 : (Cond.methodLink RX6 176 yX1_takeBack : Cond) ∈ lw_w := tb3 _ (List.mem_of_getElem? (i := 92) rfl) rfl
theorem q3_93 : (Cond.instanceMethod yX1_takeBack : Cond) ∈ lw_w := tb3 _ (List.mem_of_getElem? (i := 93) rfl) rfl
theorem q3_94 : (Cond.selects RX1 yX1_takeBack yX1_takeBack : Cond) ∈ lw_w := tb3 _ (List.mem_of_getElem? (i := 94) rfl) rfl
theorem q3_95 : (Cond.code yX1_takeBack cX1_takeBack 2 none : Cond) ∈ lw_w := tb3 _ (List.mem_of_getElem? (i := 95) rfl) rfl
theorem q5_29 : (Cond.methodLink RL 76 yX7_undo : Cond) ∈ lw_w := tb5 _ (List.mem_of_getElem? (i := 29) rfl) rfl
theorem q5_30 : (Cond.instanceMethod yX7_undo : Cond) ∈ lw_w := tb5 _ (List.mem_of_getElem? (i := 30) rfl) rfl
theorem q5_31 : (Cond.selects RX7 yX7_undo yX7_undo : Cond) ∈ lw_w := tb5 _ (List.mem_of_getElem? (i := 31) rfl) rfl
theorem q5_32 : (Cond.code yX7_undo cX7_undo 1 (some .int) : Cond) ∈ lw_w := tb5 _ (List.mem_of_getElem? (i := 32) rfl) rfl
theorem q3_96 : (Cond.methodLink RL 77 yX6_keep : Cond) ∈ lw_w := tb3 _ (List.mem_of_getElem? (i := 96) rfl) rfl
theorem q3_97 : (Cond.instanceMethod yX6_keep : Cond) ∈ lw_w := tb3 _ (List.mem_of_getElem? (i := 97) rfl) rfl
theorem q3_98 : (Cond.selects RX6 yX6_keep yX6_keep : Cond) ∈ lw_w := tb3 _ (List.mem_of_getElem? (i := 98) rfl) rfl
theorem q3_99 : (Cond.code yX6_keep cX6_keep 2 (some .int) : Cond) ∈ lw_w := tb3 _ (List.mem_of_getElem? (i := 99) rfl) rfl
theorem q1_140 : (Cond.fieldLink RX6 185 "MeterPool$Village" "hour" "I" : Cond) ∈ lw_w := tb1 _ (List.mem_of_getElem? (i := 140) rfl) rfl
theorem q3_100 : (Cond.methodLink RX6 179 yX6_isImage : Cond) ∈ lw_w := tb3 _ (List.mem_of_getElem? (i := 100) rfl) rfl
theorem q3_101 : (Cond.static yX6_isImage : Cond) ∈ lw_w := tb3 _ (List.mem_of_getElem? (i := 101) rfl) rfl
theorem q3_102 : (Cond.code yX6_isImage cX6_isImage 1 (some .boolean) : Cond) ∈ lw_w := tb3 _ (List.mem_of_getElem? (i := 102) rfl) rfl
theorem q3_103 : (Cond.methodLink RX6 182 yX5_copy : Cond) ∈ lw_w := tb3 _ (List.mem_of_getElem? (i := 103) rfl) rfl
theorem q5_33 : (Cond.methodLink RL 80 yX7_keep : Cond) ∈ lw_w := tb5 _ (List.mem_of_getElem? (i := 33) rfl) rfl
theorem q5_34 : (Cond.instanceMethod yX7_keep : Cond) ∈ lw_w := tb5 _ (List.mem_of_getElem? (i := 34) rfl) rfl
theorem q5_35 : (Cond.selects RX7 yX7_keep yX7_keep : Cond) ∈ lw_w := tb5 _ (List.mem_of_getElem? (i := 35) rfl) rfl
theorem q5_36 : (Cond.code yX7_keep cX7_keep 2 (some .int) : Cond) ∈ lw_w := tb5 _ (List.mem_of_getElem? (i := 36) rfl) rfl
theorem q4_28 : (Cond.fieldLink RX7 173 "MeterPoolModel" "kept" "I" : Cond) ∈ lw_w := tb4 _ (List.mem_of_getElem? (i := 28) rfl) rfl
theorem q3_104 : (Cond.methodLink RL 81 yX6_back : Cond) ∈ lw_w := tb3 _ (List.mem_of_getElem? (i := 104) rfl) rfl
theorem q3_105 : (Cond.instanceMethod yX6_back : Cond) ∈ lw_w := tb3 _ (List.mem_of_getElem? (i := 105) rfl) rfl
theorem q3_106 : (Cond.selects RX6 yX6_back yX6_back : Cond) ∈ lw_w := tb3 _ (List.mem_of_getElem? (i := 106) rfl) rfl
theorem q3_107 : (Cond.code yX6_back cX6_back 2 (some .int) : Cond) ∈ lw_w := tb3 _ (List.mem_of_getElem? (i := 107) rfl) rfl
theorem q5_37 : (Cond.methodLink RL 84 yX7_back : Cond) ∈ lw_w := tb5 _ (List.mem_of_getElem? (i := 37) rfl) rfl
theorem q5_38 : (Cond.instanceMethod yX7_back : Cond) ∈ lw_w := tb5 _ (List.mem_of_getElem? (i := 38) rfl) rfl
theorem q5_39 : (Cond.selects RX7 yX7_back yX7_back : Cond) ∈ lw_w := tb5 _ (List.mem_of_getElem? (i := 39) rfl) rfl
theorem q5_40 : (Cond.code yX7_back cX7_back 2 (some .int) : Cond) ∈ lw_w := tb5 _ (List.mem_of_getElem? (i := 40) rfl) rfl
theorem q3_108 : (Cond.methodLink RL 85 yX6_house : Cond) ∈ lw_w := tb3 _ (List.mem_of_getElem? (i := 108) rfl) rfl
theorem q3_109 : (Cond.instanceMethod yX6_house : Cond) ∈ lw_w := tb3 _ (List.mem_of_getElem? (i := 109) rfl) rfl
theorem q3_110 : (Cond.selects RX6 yX6_house yX6_house : Cond) ∈ lw_w := tb3 _ (List.mem_of_getElem? (i := 110) rfl) rfl
theorem q3_111 : (Cond.code yX6_house cX6_house 3 (some .int) : Cond) ∈ lw_w := tb3 _ (List.mem_of_getElem? (i := 111) rfl) rfl
theorem q3_112 : (Cond.methodLink RX6 188 yX2_canDraw : Cond) ∈ lw_w := tb3 _ (List.mem_of_getElem? (i := 112) rfl) rfl
theorem q3_113 : (Cond.methodLink RX6 191 yX4_owedBy : Cond) ∈ lw_w := tb3 _ (List.mem_of_getElem? (i := 113) rfl) rfl
theorem q3_114 : (Cond.methodLink RX6 194 yX4_owedTo : Cond) ∈ lw_w := tb3 _ (List.mem_of_getElem? (i := 114) rfl) rfl
theorem q3_115 : (Cond.instanceMethod yX4_owedTo : Cond) ∈ lw_w := tb3 _ (List.mem_of_getElem? (i := 115) rfl) rfl
theorem q3_116 : (Cond.selects RX4 yX4_owedTo yX4_owedTo : Cond) ∈ lw_w := tb3 _ (List.mem_of_getElem? (i := 116) rfl) rfl
theorem q3_117 : (Cond.code yX4_owedTo cX4_owedTo 2 (some .int) : Cond) ∈ lw_w := tb3 _ (List.mem_of_getElem? (i := 117) rfl) rfl
theorem q5_41 : (Cond.methodLink RL 88 yX7_house : Cond) ∈ lw_w := tb5 _ (List.mem_of_getElem? (i := 41) rfl) rfl
theorem q5_42 : (Cond.instanceMethod yX7_house : Cond) ∈ lw_w := tb5 _ (List.mem_of_getElem? (i := 42) rfl) rfl
theorem q5_43 : (Cond.selects RX7 yX7_house yX7_house : Cond) ∈ lw_w := tb5 _ (List.mem_of_getElem? (i := 43) rfl) rfl
theorem q5_44 : (Cond.code yX7_house cX7_house 3 (some .int) : Cond) ∈ lw_w := tb5 _ (List.mem_of_getElem? (i := 44) rfl) rfl
theorem q5_45 : (Cond.methodLink RX7 176 yX7_houseNow : Cond) ∈ lw_w := tb5 _ (List.mem_of_getElem? (i := 45) rfl) rfl
theorem q5_47 : (Cond.instanceMethod yX7_houseNow : Cond) ∈ lw_w := tb5 _ (List.mem_of_getElem? (i := 47) rfl) rfl
theorem qs59 : (Cond.selects RX7 yX7_houseNow yX7_houseNow : Cond) ∈ lw_w := List.mem_filter.mpr ⟨List.mem_append_left _ (List.mem_of_getElem? (i := 59) rfl), rfl⟩
theorem q5_48 : (Cond.code yX7_houseNow cX7_houseNow 3 (some .int) : Cond) ∈ lw_w := tb5 _ (List.mem_of_getElem? (i := 48) rfl) rfl
theorem q3_118 : (Cond.methodLink RL 89 yX6_loan : Cond) ∈ lw_w := tb3 _ (List.mem_of_getElem? (i := 118) rfl) rfl
theorem q3_119 : (Cond.instanceMethod yX6_loan : Cond) ∈ lw_w := tb3 _ (List.mem_of_getElem? (i := 119) rfl) rfl
theorem q3_120 : (Cond.selects RX6 yX6_loan yX6_loan : Cond) ∈ lw_w := tb3 _ (List.mem_of_getElem? (i := 120) rfl) rfl
theorem q3_121 : (Cond.code yX6_loan cX6_loan 3 (some .int) : Cond) ∈ lw_w := tb3 _ (List.mem_of_getElem? (i := 121) rfl) rfl
theorem q3_122 : (Cond.methodLink RX6 197 yX4_told : Cond) ∈ lw_w := tb3 _ (List.mem_of_getElem? (i := 122) rfl) rfl
theorem q3_123 : (Cond.instanceMethod yX4_told : Cond) ∈ lw_w := tb3 _ (List.mem_of_getElem? (i := 123) rfl) rfl
theorem q3_124 : (Cond.selects RX4 yX4_told yX4_told : Cond) ∈ lw_w := tb3 _ (List.mem_of_getElem? (i := 124) rfl) rfl
theorem q3_125 : (Cond.code yX4_told cX4_told 3 (some .int) : Cond) ∈ lw_w := tb3 _ (List.mem_of_getElem? (i := 125) rfl) rfl
theorem q5_49 : (Cond.methodLink RL 92 yX7_loan : Cond) ∈ lw_w := tb5 _ (List.mem_of_getElem? (i := 49) rfl) rfl
theorem q5_50 : (Cond.instanceMethod yX7_loan : Cond) ∈ lw_w := tb5 _ (List.mem_of_getElem? (i := 50) rfl) rfl
theorem q5_51 : (Cond.selects RX7 yX7_loan yX7_loan : Cond) ∈ lw_w := tb5 _ (List.mem_of_getElem? (i := 51) rfl) rfl
theorem q5_52 : (Cond.code yX7_loan cX7_loan 3 (some .int) : Cond) ∈ lw_w := tb5 _ (List.mem_of_getElem? (i := 52) rfl) rfl
theorem q3_126 : (Cond.methodLink RL 93 yX6_battery : Cond) ∈ lw_w := tb3 _ (List.mem_of_getElem? (i := 126) rfl) rfl
theorem q3_127 : (Cond.instanceMethod yX6_battery : Cond) ∈ lw_w := tb3 _ (List.mem_of_getElem? (i := 127) rfl) rfl
theorem q3_128 : (Cond.selects RX6 yX6_battery yX6_battery : Cond) ∈ lw_w := tb3 _ (List.mem_of_getElem? (i := 128) rfl) rfl
theorem q3_129 : (Cond.code yX6_battery cX6_battery 3 (some .int) : Cond) ∈ lw_w := tb3 _ (List.mem_of_getElem? (i := 129) rfl) rfl
theorem q5_53 : (Cond.methodLink RL 96 yX7_battery : Cond) ∈ lw_w := tb5 _ (List.mem_of_getElem? (i := 53) rfl) rfl
theorem q5_54 : (Cond.instanceMethod yX7_battery : Cond) ∈ lw_w := tb5 _ (List.mem_of_getElem? (i := 54) rfl) rfl
theorem q5_55 : (Cond.selects RX7 yX7_battery yX7_battery : Cond) ∈ lw_w := tb5 _ (List.mem_of_getElem? (i := 55) rfl) rfl
theorem q5_56 : (Cond.code yX7_battery cX7_battery 3 (some .int) : Cond) ∈ lw_w := tb5 _ (List.mem_of_getElem? (i := 56) rfl) rfl
theorem q5_57 : (Cond.methodLink RX7 179 yX7_batteryNow : Cond) ∈ lw_w := tb5 _ (List.mem_of_getElem? (i := 57) rfl) rfl
theorem q5_59 : (Cond.instanceMethod yX7_batteryNow : Cond) ∈ lw_w := tb5 _ (List.mem_of_getElem? (i := 59) rfl) rfl
theorem qs60 : (Cond.selects RX7 yX7_batteryNow yX7_batteryNow : Cond) ∈ lw_w := List.mem_filter.mpr ⟨List.mem_append_left _ (List.mem_of_getElem? (i := 60) rfl), rfl⟩
theorem q5_60 : (Cond.code yX7_batteryNow cX7_batteryNow 3 (some .int) : Cond) ∈ lw_w := tb5 _ (List.mem_of_getElem? (i := 60) rfl) rfl
theorem q3_130 : (Cond.methodLink RL 97 yX6_feeder : Cond) ∈ lw_w := tb3 _ (List.mem_of_getElem? (i := 130) rfl) rfl
theorem q3_131 : (Cond.instanceMethod yX6_feeder : Cond) ∈ lw_w := tb3 _ (List.mem_of_getElem? (i := 131) rfl) rfl
theorem q3_132 : (Cond.selects RX6 yX6_feeder yX6_feeder : Cond) ∈ lw_w := tb3 _ (List.mem_of_getElem? (i := 132) rfl) rfl
theorem q3_133 : (Cond.code yX6_feeder cX6_feeder 3 (some .int) : Cond) ∈ lw_w := tb3 _ (List.mem_of_getElem? (i := 133) rfl) rfl
theorem q1_133 : (Cond.fieldLink RX6 208 "MeterPool$Village" "shedHours" "[I" : Cond) ∈ lw_w := tb1 _ (List.mem_of_getElem? (i := 133) rfl) rfl
theorem q1_135 : (Cond.fieldLink RX6 211 "MeterPool$Village" "shedLatest" "[I" : Cond) ∈ lw_w := tb1 _ (List.mem_of_getElem? (i := 135) rfl) rfl
theorem q3_134 : (Cond.methodLink RX6 198 yX2_sizeOf : Cond) ∈ lw_w := tb3 _ (List.mem_of_getElem? (i := 134) rfl) rfl
theorem q3_135 : (Cond.instanceMethod yX2_sizeOf : Cond) ∈ lw_w := tb3 _ (List.mem_of_getElem? (i := 135) rfl) rfl
theorem q3_136 : (Cond.selects RX2 yX2_sizeOf yX2_sizeOf : Cond) ∈ lw_w := tb3 _ (List.mem_of_getElem? (i := 136) rfl) rfl
theorem q3_137 : (Cond.code yX2_sizeOf cX2_sizeOf 4 (some .int) : Cond) ∈ lw_w := tb3 _ (List.mem_of_getElem? (i := 137) rfl) rfl
theorem q3_138 : (Cond.methodLink RX6 201 yX2_drawnFrom : Cond) ∈ lw_w := tb3 _ (List.mem_of_getElem? (i := 138) rfl) rfl
theorem q3_139 : (Cond.instanceMethod yX2_drawnFrom : Cond) ∈ lw_w := tb3 _ (List.mem_of_getElem? (i := 139) rfl) rfl
theorem q3_140 : (Cond.selects RX2 yX2_drawnFrom yX2_drawnFrom : Cond) ∈ lw_w := tb3 _ (List.mem_of_getElem? (i := 140) rfl) rfl
theorem q3_141 : (Cond.code yX2_drawnFrom cX2_drawnFrom 5 (some .int) : Cond) ∈ lw_w := tb3 _ (List.mem_of_getElem? (i := 141) rfl) rfl
theorem q3_142 : (Cond.methodLink RX6 204 yX2_sumFrom : Cond) ∈ lw_w := tb3 _ (List.mem_of_getElem? (i := 142) rfl) rfl
theorem q5_61 : (Cond.methodLink RL 100 yX7_feeder : Cond) ∈ lw_w := tb5 _ (List.mem_of_getElem? (i := 61) rfl) rfl
theorem q5_62 : (Cond.instanceMethod yX7_feeder : Cond) ∈ lw_w := tb5 _ (List.mem_of_getElem? (i := 62) rfl) rfl
theorem q5_63 : (Cond.selects RX7 yX7_feeder yX7_feeder : Cond) ∈ lw_w := tb5 _ (List.mem_of_getElem? (i := 63) rfl) rfl
theorem q5_64 : (Cond.code yX7_feeder cX7_feeder 3 (some .int) : Cond) ∈ lw_w := tb5 _ (List.mem_of_getElem? (i := 64) rfl) rfl
theorem q5_65 : (Cond.methodLink RX7 185 yX7_feederNow : Cond) ∈ lw_w := tb5 _ (List.mem_of_getElem? (i := 65) rfl) rfl
theorem q5_67 : (Cond.instanceMethod yX7_feederNow : Cond) ∈ lw_w := tb5 _ (List.mem_of_getElem? (i := 67) rfl) rfl
theorem qs61 : (Cond.selects RX7 yX7_feederNow yX7_feederNow : Cond) ∈ lw_w := List.mem_filter.mpr ⟨List.mem_append_left _ (List.mem_of_getElem? (i := 61) rfl), rfl⟩
theorem q5_68 : (Cond.code yX7_feederNow cX7_feederNow 3 (some .int) : Cond) ∈ lw_w := tb5 _ (List.mem_of_getElem? (i := 68) rfl) rfl
theorem q5_69 : (Cond.methodLink RX7 182 yX7_ofHouses : Cond) ∈ lw_w := tb5 _ (List.mem_of_getElem? (i := 69) rfl) rfl
theorem q5_71 : (Cond.instanceMethod yX7_ofHouses : Cond) ∈ lw_w := tb5 _ (List.mem_of_getElem? (i := 71) rfl) rfl
theorem qs62 : (Cond.selects RX7 yX7_ofHouses yX7_ofHouses : Cond) ∈ lw_w := List.mem_filter.mpr ⟨List.mem_append_left _ (List.mem_of_getElem? (i := 62) rfl), rfl⟩
theorem q5_72 : (Cond.code yX7_ofHouses cX7_ofHouses 5 (some .int) : Cond) ∈ lw_w := tb5 _ (List.mem_of_getElem? (i := 72) rfl) rfl
theorem q3_143 : (Cond.methodLink RL 101 yX6_account : Cond) ∈ lw_w := tb3 _ (List.mem_of_getElem? (i := 143) rfl) rfl
theorem q3_144 : (Cond.instanceMethod yX6_account : Cond) ∈ lw_w := tb3 _ (List.mem_of_getElem? (i := 144) rfl) rfl
theorem q3_145 : (Cond.selects RX6 yX6_account yX6_account : Cond) ∈ lw_w := tb3 _ (List.mem_of_getElem? (i := 145) rfl) rfl
theorem q3_146 : (Cond.code yX6_account cX6_account 2 (some .int) : Cond) ∈ lw_w := tb3 _ (List.mem_of_getElem? (i := 146) rfl) rfl
theorem q3_147 : (Cond.methodLink RX6 214 yX0_chargeOfAll : Cond) ∈ lw_w := tb3 _ (List.mem_of_getElem? (i := 147) rfl) rfl
theorem q3_148 : (Cond.instanceMethod yX0_chargeOfAll : Cond) ∈ lw_w := tb3 _ (List.mem_of_getElem? (i := 148) rfl) rfl
theorem q3_149 : (Cond.selects RX0 yX0_chargeOfAll yX0_chargeOfAll : Cond) ∈ lw_w := tb3 _ (List.mem_of_getElem? (i := 149) rfl) rfl
theorem q3_150 : (Cond.code yX0_chargeOfAll cX0_chargeOfAll 1 (some .int) : Cond) ∈ lw_w := tb3 _ (List.mem_of_getElem? (i := 150) rfl) rfl
theorem q5_73 : (Cond.methodLink RL 104 yX7_account : Cond) ∈ lw_w := tb5 _ (List.mem_of_getElem? (i := 73) rfl) rfl
theorem q5_74 : (Cond.instanceMethod yX7_account : Cond) ∈ lw_w := tb5 _ (List.mem_of_getElem? (i := 74) rfl) rfl
theorem q5_75 : (Cond.selects RX7 yX7_account yX7_account : Cond) ∈ lw_w := tb5 _ (List.mem_of_getElem? (i := 75) rfl) rfl
theorem q5_76 : (Cond.code yX7_account cX7_account 2 (some .int) : Cond) ∈ lw_w := tb5 _ (List.mem_of_getElem? (i := 76) rfl) rfl
theorem q5_77 : (Cond.methodLink RX7 188 yX7_accountNow : Cond) ∈ lw_w := tb5 _ (List.mem_of_getElem? (i := 77) rfl) rfl
theorem q5_79 : (Cond.instanceMethod yX7_accountNow : Cond) ∈ lw_w := tb5 _ (List.mem_of_getElem? (i := 79) rfl) rfl
theorem qs63 : (Cond.selects RX7 yX7_accountNow yX7_accountNow : Cond) ∈ lw_w := List.mem_filter.mpr ⟨List.mem_append_left _ (List.mem_of_getElem? (i := 63) rfl), rfl⟩
theorem q5_80 : (Cond.code yX7_accountNow cX7_accountNow 2 (some .int) : Cond) ∈ lw_w := tb5 _ (List.mem_of_getElem? (i := 80) rfl) rfl
theorem q3_151 : (Cond.methodLink RL 105 yX6_supply : Cond) ∈ lw_w := tb3 _ (List.mem_of_getElem? (i := 151) rfl) rfl
theorem q3_152 : (Cond.instanceMethod yX6_supply : Cond) ∈ lw_w := tb3 _ (List.mem_of_getElem? (i := 152) rfl) rfl
theorem q3_153 : (Cond.selects RX6 yX6_supply yX6_supply : Cond) ∈ lw_w := tb3 _ (List.mem_of_getElem? (i := 153) rfl) rfl
theorem q3_154 : (Cond.code yX6_supply cX6_supply 2 (some .int) : Cond) ∈ lw_w := tb3 _ (List.mem_of_getElem? (i := 154) rfl) rfl
theorem q3_155 : (Cond.methodLink RX6 217 yX5_supplyOf : Cond) ∈ lw_w := tb3 _ (List.mem_of_getElem? (i := 155) rfl) rfl
theorem q5_81 : (Cond.methodLink RL 108 yX7_supply : Cond) ∈ lw_w := tb5 _ (List.mem_of_getElem? (i := 81) rfl) rfl
theorem q5_82 : (Cond.instanceMethod yX7_supply : Cond) ∈ lw_w := tb5 _ (List.mem_of_getElem? (i := 82) rfl) rfl
theorem q5_83 : (Cond.selects RX7 yX7_supply yX7_supply : Cond) ∈ lw_w := tb5 _ (List.mem_of_getElem? (i := 83) rfl) rfl
theorem q5_84 : (Cond.code yX7_supply cX7_supply 2 (some .int) : Cond) ∈ lw_w := tb5 _ (List.mem_of_getElem? (i := 84) rfl) rfl
theorem q3_156 : (Cond.methodLink RL 109 yX6_count : Cond) ∈ lw_w := tb3 _ (List.mem_of_getElem? (i := 156) rfl) rfl
theorem q3_157 : (Cond.instanceMethod yX6_count : Cond) ∈ lw_w := tb3 _ (List.mem_of_getElem? (i := 157) rfl) rfl
theorem q3_158 : (Cond.selects RX6 yX6_count yX6_count : Cond) ∈ lw_w := tb3 _ (List.mem_of_getElem? (i := 158) rfl) rfl
theorem q3_159 : (Cond.code yX6_count cX6_count 2 (some .int) : Cond) ∈ lw_w := tb3 _ (List.mem_of_getElem? (i := 159) rfl) rfl
theorem q1_142 : (Cond.fieldLink RX6 220 "MeterPool$Village" "turn" "I" : Cond) ∈ lw_w := tb1 _ (List.mem_of_getElem? (i := 142) rfl) rfl
theorem q3_160 : (Cond.methodLink RX6 223 yX2_overdrawn : Cond) ∈ lw_w := tb3 _ (List.mem_of_getElem? (i := 160) rfl) rfl
theorem q3_161 : (Cond.instanceMethod yX2_overdrawn : Cond) ∈ lw_w := tb3 _ (List.mem_of_getElem? (i := 161) rfl) rfl
theorem q3_162 : (Cond.selects RX2 yX2_overdrawn yX2_overdrawn : Cond) ∈ lw_w := tb3 _ (List.mem_of_getElem? (i := 162) rfl) rfl
theorem q3_163 : (Cond.code yX2_overdrawn cX2_overdrawn 3 (some .int) : Cond) ∈ lw_w := tb3 _ (List.mem_of_getElem? (i := 163) rfl) rfl
theorem q5_85 : (Cond.methodLink RL 112 yX7_count : Cond) ∈ lw_w := tb5 _ (List.mem_of_getElem? (i := 85) rfl) rfl
theorem q5_86 : (Cond.instanceMethod yX7_count : Cond) ∈ lw_w := tb5 _ (List.mem_of_getElem? (i := 86) rfl) rfl
theorem q5_87 : (Cond.selects RX7 yX7_count yX7_count : Cond) ∈ lw_w := tb5 _ (List.mem_of_getElem? (i := 87) rfl) rfl
theorem q5_88 : (Cond.code yX7_count cX7_count 2 (some .int) : Cond) ∈ lw_w := tb5 _ (List.mem_of_getElem? (i := 88) rfl) rfl
theorem q5_89 : (Cond.methodLink RX7 194 yX7_counted : Cond) ∈ lw_w := tb5 _ (List.mem_of_getElem? (i := 89) rfl) rfl
theorem q5_91 : (Cond.instanceMethod yX7_counted : Cond) ∈ lw_w := tb5 _ (List.mem_of_getElem? (i := 91) rfl) rfl
theorem qs64 : (Cond.selects RX7 yX7_counted yX7_counted : Cond) ∈ lw_w := List.mem_filter.mpr ⟨List.mem_append_left _ (List.mem_of_getElem? (i := 64) rfl), rfl⟩
theorem q5_92 : (Cond.code yX7_counted cX7_counted 2 (some .int) : Cond) ∈ lw_w := tb5 _ (List.mem_of_getElem? (i := 92) rfl) rfl
theorem q5_93 : (Cond.methodLink RX7 191 yX7_negative : Cond) ∈ lw_w := tb5 _ (List.mem_of_getElem? (i := 93) rfl) rfl
theorem q5_95 : (Cond.instanceMethod yX7_negative : Cond) ∈ lw_w := tb5 _ (List.mem_of_getElem? (i := 95) rfl) rfl
theorem qs65 : (Cond.selects RX7 yX7_negative yX7_negative : Cond) ∈ lw_w := List.mem_filter.mpr ⟨List.mem_append_left _ (List.mem_of_getElem? (i := 65) rfl), rfl⟩
theorem q5_96 : (Cond.code yX7_negative cX7_negative 3 (some .int) : Cond) ∈ lw_w := tb5 _ (List.mem_of_getElem? (i := 96) rfl) rfl
theorem q3_164 : (Cond.methodLink RL 113 yX6_setting : Cond) ∈ lw_w := tb3 _ (List.mem_of_getElem? (i := 164) rfl) rfl
theorem q3_165 : (Cond.instanceMethod yX6_setting : Cond) ∈ lw_w := tb3 _ (List.mem_of_getElem? (i := 165) rfl) rfl
theorem q3_166 : (Cond.selects RX6 yX6_setting yX6_setting : Cond) ∈ lw_w := tb3 _ (List.mem_of_getElem? (i := 166) rfl) rfl
theorem q3_167 : (Cond.code yX6_setting cX6_setting 2 (some .int) : Cond) ∈ lw_w := tb3 _ (List.mem_of_getElem? (i := 167) rfl) rfl
theorem q5_97 : (Cond.methodLink RL 116 yX7_setting : Cond) ∈ lw_w := tb5 _ (List.mem_of_getElem? (i := 97) rfl) rfl
theorem q5_98 : (Cond.instanceMethod yX7_setting : Cond) ∈ lw_w := tb5 _ (List.mem_of_getElem? (i := 98) rfl) rfl
theorem q5_99 : (Cond.selects RX7 yX7_setting yX7_setting : Cond) ∈ lw_w := tb5 _ (List.mem_of_getElem? (i := 99) rfl) rfl
theorem q5_100 : (Cond.code yX7_setting cX7_setting 2 (some .int) : Cond) ∈ lw_w := tb5 _ (List.mem_of_getElem? (i := 100) rfl) rfl
theorem q3_168 : (Cond.methodLink RL 117 yX6_ifRun : Cond) ∈ lw_w := tb3 _ (List.mem_of_getElem? (i := 168) rfl) rfl
theorem q3_169 : (Cond.instanceMethod yX6_ifRun : Cond) ∈ lw_w := tb3 _ (List.mem_of_getElem? (i := 169) rfl) rfl
theorem q3_170 : (Cond.selects RX6 yX6_ifRun yX6_ifRun : Cond) ∈ lw_w := tb3 _ (List.mem_of_getElem? (i := 170) rfl) rfl
theorem q3_171 : (Cond.code yX6_ifRun cX6_ifRun 3 (some .int) : Cond) ∈ lw_w := tb3 _ (List.mem_of_getElem? (i := 171) rfl) rfl
theorem q3_172 : (Cond.methodLink RX6 226 yX6_seenAhead : Cond) ∈ lw_w := tb3 _ (List.mem_of_getElem? (i := 172) rfl) rfl
theorem q3_174 : (Cond.instanceMethod yX6_seenAhead : Cond) ∈ lw_w := tb3 _ (List.mem_of_getElem? (i := 174) rfl) rfl
theorem qs20 : (Cond.selects RX6 yX6_seenAhead yX6_seenAhead : Cond) ∈ lw_w := List.mem_filter.mpr ⟨List.mem_append_left _ (List.mem_of_getElem? (i := 20) rfl), rfl⟩
theorem q3_175 : (Cond.code yX6_seenAhead cX6_seenAhead 2 (some .int) : Cond) ∈ lw_w := tb3 _ (List.mem_of_getElem? (i := 175) rfl) rfl
theorem q3_176 : (Cond.methodLink RX6 284 yX5_timesShed : Cond) ∈ lw_w := tb3 _ (List.mem_of_getElem? (i := 176) rfl) rfl
theorem q3_177 : (Cond.instanceMethod yX5_timesShed : Cond) ∈ lw_w := tb3 _ (List.mem_of_getElem? (i := 177) rfl) rfl
theorem q3_178 : (Cond.selects RX5 yX5_timesShed yX5_timesShed : Cond) ∈ lw_w := tb3 _ (List.mem_of_getElem? (i := 178) rfl) rfl
theorem q3_179 : (Cond.code yX5_timesShed cX5_timesShed 1 (some .int) : Cond) ∈ lw_w := tb3 _ (List.mem_of_getElem? (i := 179) rfl) rfl
theorem q3_180 : (Cond.methodLink RX6 287 yX2_unmet : Cond) ∈ lw_w := tb3 _ (List.mem_of_getElem? (i := 180) rfl) rfl
theorem q3_181 : (Cond.instanceMethod yX2_unmet : Cond) ∈ lw_w := tb3 _ (List.mem_of_getElem? (i := 181) rfl) rfl
theorem q3_182 : (Cond.selects RX2 yX2_unmet yX2_unmet : Cond) ∈ lw_w := tb3 _ (List.mem_of_getElem? (i := 182) rfl) rfl
theorem q3_183 : (Cond.code yX2_unmet cX2_unmet 3 (some .int) : Cond) ∈ lw_w := tb3 _ (List.mem_of_getElem? (i := 183) rfl) rfl
theorem q5_101 : (Cond.methodLink RL 120 yX7_ifRun : Cond) ∈ lw_w := tb5 _ (List.mem_of_getElem? (i := 101) rfl) rfl
theorem q5_102 : (Cond.instanceMethod yX7_ifRun : Cond) ∈ lw_w := tb5 _ (List.mem_of_getElem? (i := 102) rfl) rfl
theorem q5_103 : (Cond.selects RX7 yX7_ifRun yX7_ifRun : Cond) ∈ lw_w := tb5 _ (List.mem_of_getElem? (i := 103) rfl) rfl
theorem q5_104 : (Cond.code yX7_ifRun cX7_ifRun 3 (some .int) : Cond) ∈ lw_w := tb5 _ (List.mem_of_getElem? (i := 104) rfl) rfl
theorem q5_105 : (Cond.methodLink RX7 203 yX7_ahead : Cond) ∈ lw_w := tb5 _ (List.mem_of_getElem? (i := 105) rfl) rfl
theorem q5_107 : (Cond.instanceMethod yX7_ahead : Cond) ∈ lw_w := tb5 _ (List.mem_of_getElem? (i := 107) rfl) rfl
theorem qs66 : (Cond.selects RX7 yX7_ahead yX7_ahead : Cond) ∈ lw_w := List.mem_filter.mpr ⟨List.mem_append_left _ (List.mem_of_getElem? (i := 66) rfl), rfl⟩
theorem q5_108 : (Cond.code yX7_ahead cX7_ahead 7 (some .int) : Cond) ∈ lw_w := tb5 _ (List.mem_of_getElem? (i := 108) rfl) rfl
theorem q5_109 : (Cond.methodLink RX7 197 yX7_sheddings : Cond) ∈ lw_w := tb5 _ (List.mem_of_getElem? (i := 109) rfl) rfl
theorem q5_111 : (Cond.instanceMethod yX7_sheddings : Cond) ∈ lw_w := tb5 _ (List.mem_of_getElem? (i := 111) rfl) rfl
theorem qs67 : (Cond.selects RX7 yX7_sheddings yX7_sheddings : Cond) ∈ lw_w := List.mem_filter.mpr ⟨List.mem_append_left _ (List.mem_of_getElem? (i := 67) rfl), rfl⟩
theorem q5_112 : (Cond.code yX7_sheddings cX7_sheddings 1 (some .int) : Cond) ∈ lw_w := tb5 _ (List.mem_of_getElem? (i := 112) rfl) rfl
theorem q5_113 : (Cond.methodLink RX7 200 yX7_dark : Cond) ∈ lw_w := tb5 _ (List.mem_of_getElem? (i := 113) rfl) rfl
theorem q5_115 : (Cond.instanceMethod yX7_dark : Cond) ∈ lw_w := tb5 _ (List.mem_of_getElem? (i := 115) rfl) rfl
theorem qs68 : (Cond.selects RX7 yX7_dark yX7_dark : Cond) ∈ lw_w := List.mem_filter.mpr ⟨List.mem_append_left _ (List.mem_of_getElem? (i := 68) rfl), rfl⟩
theorem q5_116 : (Cond.code yX7_dark cX7_dark 3 (some .int) : Cond) ∈ lw_w := tb5 _ (List.mem_of_getElem? (i := 116) rfl) rfl
theorem q3_184 : (Cond.methodLink RL 121 yX6_darkIn : Cond) ∈ lw_w := tb3 _ (List.mem_of_getElem? (i := 184) rfl) rfl
theorem q3_185 : (Cond.instanceMethod yX6_darkIn : Cond) ∈ lw_w := tb3 _ (List.mem_of_getElem? (i := 185) rfl) rfl
theorem q3_186 : (Cond.selects RX6 yX6_darkIn yX6_darkIn : Cond) ∈ lw_w := tb3 _ (List.mem_of_getElem? (i := 186) rfl) rfl
theorem q3_187 : (Cond.code yX6_darkIn cX6_darkIn 3 (some .int) : Cond) ∈ lw_w := tb3 _ (List.mem_of_getElem? (i := 187) rfl) rfl
theorem q3_188 : (Cond.methodLink RX6 229 yX5_hoursMet : Cond) ∈ lw_w := tb3 _ (List.mem_of_getElem? (i := 188) rfl) rfl
theorem q3_189 : (Cond.instanceMethod yX5_hoursMet : Cond) ∈ lw_w := tb3 _ (List.mem_of_getElem? (i := 189) rfl) rfl
theorem q3_190 : (Cond.selects RX5 yX5_hoursMet yX5_hoursMet : Cond) ∈ lw_w := tb3 _ (List.mem_of_getElem? (i := 190) rfl) rfl
theorem q3_191 : (Cond.code yX5_hoursMet cX5_hoursMet 4 (some .int) : Cond) ∈ lw_w := tb3 _ (List.mem_of_getElem? (i := 191) rfl) rfl
theorem q1_47 : (Cond.fieldLink RX5 128 "MeterPool$Houses" "got" "[I" : Cond) ∈ lw_w := tb1 _ (List.mem_of_getElem? (i := 47) rfl) rfl
theorem q1_38 : (Cond.fieldLink RX5 122 "MeterPool$Houses" "demand" "[I" : Cond) ∈ lw_w := tb1 _ (List.mem_of_getElem? (i := 38) rfl) rfl
theorem q5_117 : (Cond.methodLink RL 124 yX7_darkIn : Cond) ∈ lw_w := tb5 _ (List.mem_of_getElem? (i := 117) rfl) rfl
theorem q5_118 : (Cond.instanceMethod yX7_darkIn : Cond) ∈ lw_w := tb5 _ (List.mem_of_getElem? (i := 118) rfl) rfl
theorem q5_119 : (Cond.selects RX7 yX7_darkIn yX7_darkIn : Cond) ∈ lw_w := tb5 _ (List.mem_of_getElem? (i := 119) rfl) rfl
theorem q5_120 : (Cond.code yX7_darkIn cX7_darkIn 2 (some .int) : Cond) ∈ lw_w := tb5 _ (List.mem_of_getElem? (i := 120) rfl) rfl
theorem q5_121 : (Cond.methodLink RX7 206 yX7_firstDark : Cond) ∈ lw_w := tb5 _ (List.mem_of_getElem? (i := 121) rfl) rfl
theorem q5_123 : (Cond.instanceMethod yX7_firstDark : Cond) ∈ lw_w := tb5 _ (List.mem_of_getElem? (i := 123) rfl) rfl
theorem qs69 : (Cond.selects RX7 yX7_firstDark yX7_firstDark : Cond) ∈ lw_w := List.mem_filter.mpr ⟨List.mem_append_left _ (List.mem_of_getElem? (i := 69) rfl), rfl⟩
theorem q5_124 : (Cond.code yX7_firstDark cX7_firstDark 5 (some .int) : Cond) ∈ lw_w := tb5 _ (List.mem_of_getElem? (i := 124) rfl) rfl
theorem q3_192 : (Cond.methodLink RL 125 yX6_tokenFor : Cond) ∈ lw_w := tb3 _ (List.mem_of_getElem? (i := 192) rfl) rfl
theorem q3_193 : (Cond.instanceMethod yX6_tokenFor : Cond) ∈ lw_w := tb3 _ (List.mem_of_getElem? (i := 193) rfl) rfl
theorem q3_194 : (Cond.selects RX6 yX6_tokenFor yX6_tokenFor : Cond) ∈ lw_w := tb3 _ (List.mem_of_getElem? (i := 194) rfl) rfl
theorem q3_195 : (Cond.code yX6_tokenFor cX6_tokenFor 6 (some .int) : Cond) ∈ lw_w := tb3 _ (List.mem_of_getElem? (i := 195) rfl) rfl
theorem q3_196 : (Cond.methodLink RX6 232 yX5_partForLoans : Cond) ∈ lw_w := tb3 _ (List.mem_of_getElem? (i := 196) rfl) rfl
theorem q3_197 : (Cond.methodLink RX6 235 yX5_affords : Cond) ∈ lw_w := tb3 _ (List.mem_of_getElem? (i := 197) rfl) rfl
theorem q3_198 : (Cond.instanceMethod yX5_affords : Cond) ∈ lw_w := tb3 _ (List.mem_of_getElem? (i := 198) rfl) rfl
theorem q3_199 : (Cond.selects RX5 yX5_affords yX5_affords : Cond) ∈ lw_w := tb3 _ (List.mem_of_getElem? (i := 199) rfl) rfl
theorem q3_200 : (Cond.code yX5_affords cX5_affords 6 (some .boolean) : Cond) ∈ lw_w := tb3 _ (List.mem_of_getElem? (i := 200) rfl) rfl
theorem q3_201 : (Cond.methodLink RX6 238 yX6_wouldServe : Cond) ∈ lw_w := tb3 _ (List.mem_of_getElem? (i := 201) rfl) rfl
theorem q3_203 : (Cond.instanceMethod yX6_wouldServe : Cond) ∈ lw_w := tb3 _ (List.mem_of_getElem? (i := 203) rfl) rfl
theorem qs21 : (Cond.selects RX6 yX6_wouldServe yX6_wouldServe : Cond) ∈ lw_w := List.mem_filter.mpr ⟨List.mem_append_left _ (List.mem_of_getElem? (i := 21) rfl), rfl⟩
theorem q3_204 : (Cond.code yX6_wouldServe cX6_wouldServe 4 (some .boolean) : Cond) ∈ lw_w := tb3 _ (List.mem_of_getElem? (i := 204) rfl) rfl
theorem q5_125 : (Cond.methodLink RL 128 yX7_tokenFor : Cond) ∈ lw_w := tb5 _ (List.mem_of_getElem? (i := 125) rfl) rfl
theorem q5_126 : (Cond.instanceMethod yX7_tokenFor : Cond) ∈ lw_w := tb5 _ (List.mem_of_getElem? (i := 126) rfl) rfl
theorem q5_127 : (Cond.selects RX7 yX7_tokenFor yX7_tokenFor : Cond) ∈ lw_w := tb5 _ (List.mem_of_getElem? (i := 127) rfl) rfl
theorem q5_128 : (Cond.code yX7_tokenFor cX7_tokenFor 5 (some .int) : Cond) ∈ lw_w := tb5 _ (List.mem_of_getElem? (i := 128) rfl) rfl
theorem q3_205 : (Cond.methodLink RL 129 yX6_met : Cond) ∈ lw_w := tb3 _ (List.mem_of_getElem? (i := 205) rfl) rfl
theorem q3_206 : (Cond.instanceMethod yX6_met : Cond) ∈ lw_w := tb3 _ (List.mem_of_getElem? (i := 206) rfl) rfl
theorem q3_207 : (Cond.selects RX6 yX6_met yX6_met : Cond) ∈ lw_w := tb3 _ (List.mem_of_getElem? (i := 207) rfl) rfl
theorem q3_208 : (Cond.code yX6_met cX6_met 2 (some .double) : Cond) ∈ lw_w := tb3 _ (List.mem_of_getElem? (i := 208) rfl) rfl
theorem q1_39 : (Cond.fieldLink RX6 241 "MeterPool$Houses" "demand" "[I" : Cond) ∈ lw_w := tb1 _ (List.mem_of_getElem? (i := 39) rfl) rfl
theorem q1_48 : (Cond.fieldLink RX6 248 "MeterPool$Houses" "got" "[I" : Cond) ∈ lw_w := tb1 _ (List.mem_of_getElem? (i := 48) rfl) rfl
theorem q3_209 : (Cond.methodLink RX6 244 yX2_sum : Cond) ∈ lw_w := tb3 _ (List.mem_of_getElem? (i := 209) rfl) rfl
theorem q5_129 : (Cond.methodLink RL 133 yX7_met : Cond) ∈ lw_w := tb5 _ (List.mem_of_getElem? (i := 129) rfl) rfl
theorem q5_130 : (Cond.instanceMethod yX7_met : Cond) ∈ lw_w := tb5 _ (List.mem_of_getElem? (i := 130) rfl) rfl
theorem q5_131 : (Cond.selects RX7 yX7_met yX7_met : Cond) ∈ lw_w := tb5 _ (List.mem_of_getElem? (i := 131) rfl) rfl
theorem q5_132 : (Cond.code yX7_met cX7_met 4 (some .double) : Cond) ∈ lw_w := tb5 _ (List.mem_of_getElem? (i := 132) rfl) rfl
theorem q3_210 : (Cond.methodLink RL 134 yX6_digest : Cond) ∈ lw_w := tb3 _ (List.mem_of_getElem? (i := 210) rfl) rfl
theorem q3_211 : (Cond.instanceMethod yX6_digest : Cond) ∈ lw_w := tb3 _ (List.mem_of_getElem? (i := 211) rfl) rfl
theorem q3_212 : (Cond.selects RX6 yX6_digest yX6_digest : Cond) ∈ lw_w := tb3 _ (List.mem_of_getElem? (i := 212) rfl) rfl
theorem q3_213 : (Cond.code yX6_digest cX6_digest 3 (some .long) : Cond) ∈ lw_w := tb3 _ (List.mem_of_getElem? (i := 213) rfl) rfl
theorem q3_214 : (Cond.constantLong RX6 251 (2111) : Cond) ∈ lw_w := tb3 _ (List.mem_of_getElem? (i := 214) rfl) rfl
theorem q3_215 : (Cond.methodLink RX6 253 yX6_mixTotals : Cond) ∈ lw_w := tb3 _ (List.mem_of_getElem? (i := 215) rfl) rfl
theorem q3_217 : (Cond.instanceMethod yX6_mixTotals : Cond) ∈ lw_w := tb3 _ (List.mem_of_getElem? (i := 217) rfl) rfl
theorem qs22 : (Cond.selects RX6 yX6_mixTotals yX6_mixTotals : Cond) ∈ lw_w := List.mem_filter.mpr ⟨List.mem_append_left _ (List.mem_of_getElem? (i := 22) rfl), rfl⟩
theorem q3_218 : (Cond.code yX6_mixTotals cX6_mixTotals 6 (some .long) : Cond) ∈ lw_w := tb3 _ (List.mem_of_getElem? (i := 218) rfl) rfl
theorem q3_219 : (Cond.methodLink RX6 292 yX6_count : Cond) ∈ lw_w := tb3 _ (List.mem_of_getElem? (i := 219) rfl) rfl
theorem q3_220 : (Cond.methodLink RX6 277 yX6_mix : Cond) ∈ lw_w := tb3 _ (List.mem_of_getElem? (i := 220) rfl) rfl
theorem q3_221 : (Cond.static yX6_mix : Cond) ∈ lw_w := tb3 _ (List.mem_of_getElem? (i := 221) rfl) rfl
theorem q3_222 : (Cond.code yX6_mix cX6_mix 4 (some .long) : Cond) ∈ lw_w := tb3 _ (List.mem_of_getElem? (i := 222) rfl) rfl
theorem q3_223 : (Cond.constantLong RX6 290 (31) : Cond) ∈ lw_w := tb3 _ (List.mem_of_getElem? (i := 223) rfl) rfl
theorem q3_224 : (Cond.methodLink RX6 295 yX6_setting : Cond) ∈ lw_w := tb3 _ (List.mem_of_getElem? (i := 224) rfl) rfl
theorem q3_225 : (Cond.methodLink RX6 298 yX6_account : Cond) ∈ lw_w := tb3 _ (List.mem_of_getElem? (i := 225) rfl) rfl
theorem q3_226 : (Cond.methodLink RX6 257 yX6_mixHouses : Cond) ∈ lw_w := tb3 _ (List.mem_of_getElem? (i := 226) rfl) rfl
theorem q3_228 : (Cond.instanceMethod yX6_mixHouses : Cond) ∈ lw_w := tb3 _ (List.mem_of_getElem? (i := 228) rfl) rfl
theorem qs23 : (Cond.selects RX6 yX6_mixHouses yX6_mixHouses : Cond) ∈ lw_w := List.mem_filter.mpr ⟨List.mem_append_left _ (List.mem_of_getElem? (i := 23) rfl), rfl⟩
theorem q3_229 : (Cond.code yX6_mixHouses cX6_mixHouses 7 (some .long) : Cond) ∈ lw_w := tb3 _ (List.mem_of_getElem? (i := 229) rfl) rfl
theorem q3_230 : (Cond.methodLink RX6 301 yX6_house : Cond) ∈ lw_w := tb3 _ (List.mem_of_getElem? (i := 230) rfl) rfl
theorem q3_231 : (Cond.methodLink RX6 260 yX6_mixLoans : Cond) ∈ lw_w := tb3 _ (List.mem_of_getElem? (i := 231) rfl) rfl
theorem q3_233 : (Cond.instanceMethod yX6_mixLoans : Cond) ∈ lw_w := tb3 _ (List.mem_of_getElem? (i := 233) rfl) rfl
theorem qs24 : (Cond.selects RX6 yX6_mixLoans yX6_mixLoans : Cond) ∈ lw_w := List.mem_filter.mpr ⟨List.mem_append_left _ (List.mem_of_getElem? (i := 24) rfl), rfl⟩
theorem q3_234 : (Cond.code yX6_mixLoans cX6_mixLoans 7 (some .long) : Cond) ∈ lw_w := tb3 _ (List.mem_of_getElem? (i := 234) rfl) rfl
theorem q3_235 : (Cond.methodLink RX6 304 yX6_loan : Cond) ∈ lw_w := tb3 _ (List.mem_of_getElem? (i := 235) rfl) rfl
theorem q3_236 : (Cond.methodLink RX6 263 yX6_mixPlant : Cond) ∈ lw_w := tb3 _ (List.mem_of_getElem? (i := 236) rfl) rfl
theorem q3_238 : (Cond.instanceMethod yX6_mixPlant : Cond) ∈ lw_w := tb3 _ (List.mem_of_getElem? (i := 238) rfl) rfl
theorem qs25 : (Cond.selects RX6 yX6_mixPlant yX6_mixPlant : Cond) ∈ lw_w := List.mem_filter.mpr ⟨List.mem_append_left _ (List.mem_of_getElem? (i := 25) rfl), rfl⟩
theorem q3_239 : (Cond.code yX6_mixPlant cX6_mixPlant 7 (some .long) : Cond) ∈ lw_w := tb3 _ (List.mem_of_getElem? (i := 239) rfl) rfl
theorem q4_0 : (Cond.methodLink RX6 307 yX6_battery : Cond) ∈ lw_w := tb4 _ (List.mem_of_getElem? (i := 0) rfl) rfl
theorem q4_1 : (Cond.methodLink RX6 310 yX6_feeder : Cond) ∈ lw_w := tb4 _ (List.mem_of_getElem? (i := 1) rfl) rfl
theorem q4_2 : (Cond.methodLink RX6 313 yX6_supply : Cond) ∈ lw_w := tb4 _ (List.mem_of_getElem? (i := 2) rfl) rfl
theorem q4_3 : (Cond.methodLink RX6 266 yX6_mixAhead : Cond) ∈ lw_w := tb4 _ (List.mem_of_getElem? (i := 3) rfl) rfl
theorem q4_5 : (Cond.instanceMethod yX6_mixAhead : Cond) ∈ lw_w := tb4 _ (List.mem_of_getElem? (i := 5) rfl) rfl
theorem qs26 : (Cond.selects RX6 yX6_mixAhead yX6_mixAhead : Cond) ∈ lw_w := List.mem_filter.mpr ⟨List.mem_append_left _ (List.mem_of_getElem? (i := 26) rfl), rfl⟩
theorem q4_6 : (Cond.code yX6_mixAhead cX6_mixAhead 6 (some .long) : Cond) ∈ lw_w := tb4 _ (List.mem_of_getElem? (i := 6) rfl) rfl
theorem q4_7 : (Cond.methodLink RX6 269 yX6_met : Cond) ∈ lw_w := tb4 _ (List.mem_of_getElem? (i := 7) rfl) rfl
theorem q4_8 : (Cond.methodLink RX6 273 yX6_bitsOf : Cond) ∈ lw_w := tb4 _ (List.mem_of_getElem? (i := 8) rfl) rfl
theorem q4_9 : (Cond.static yX6_bitsOf : Cond) ∈ lw_w := tb4 _ (List.mem_of_getElem? (i := 9) rfl) rfl
theorem q4_10 : (Cond.code yX6_bitsOf cX6_bitsOf 8 (some .long) : Cond) ∈ lw_w := tb4 _ (List.mem_of_getElem? (i := 10) rfl) rfl
theorem q4_11 : (Cond.constantLong RX6 319 (1023) : Cond) ∈ lw_w := tb4 _ (List.mem_of_getElem? (i := 11) rfl) rfl
theorem q4_12 : (Cond.constantDouble RX6 321 (4611686018427387904) : Cond) ∈ lw_w := tb4 _ (List.mem_of_getElem? (i := 12) rfl) rfl
theorem q4_13 : (Cond.constantDouble RX6 323 (4841369599423283200) : Cond) ∈ lw_w := tb4 _ (List.mem_of_getElem? (i := 13) rfl) rfl
theorem q4_14 : (Cond.methodLink RX6 281 yX6_mixText : Cond) ∈ lw_w := tb4 _ (List.mem_of_getElem? (i := 14) rfl) rfl
theorem q4_16 : (Cond.instanceMethod yX6_mixText : Cond) ∈ lw_w := tb4 _ (List.mem_of_getElem? (i := 16) rfl) rfl
theorem qs27 : (Cond.selects RX6 yX6_mixText yX6_mixText : Cond) ∈ lw_w := List.mem_filter.mpr ⟨List.mem_append_left _ (List.mem_of_getElem? (i := 27) rfl), rfl⟩
theorem q4_17 : (Cond.code yX6_mixText cX6_mixText 6 (some .long) : Cond) ∈ lw_w := tb4 _ (List.mem_of_getElem? (i := 17) rfl) rfl
theorem q1_192 : (Cond.fieldLink RX6 316 "MeterPool$ListText" "codes" "[I" : Cond) ∈ lw_w := tb1 _ (List.mem_of_getElem? (i := 192) rfl) rfl
theorem q5_133 : (Cond.methodLink RL 138 yX7_digest : Cond) ∈ lw_w := tb5 _ (List.mem_of_getElem? (i := 133) rfl) rfl
theorem q5_134 : (Cond.instanceMethod yX7_digest : Cond) ∈ lw_w := tb5 _ (List.mem_of_getElem? (i := 134) rfl) rfl
theorem q5_135 : (Cond.selects RX7 yX7_digest yX7_digest : Cond) ∈ lw_w := tb5 _ (List.mem_of_getElem? (i := 135) rfl) rfl
theorem q5_136 : (Cond.code yX7_digest cX7_digest 2 (some .long) : Cond) ∈ lw_w := tb5 _ (List.mem_of_getElem? (i := 136) rfl) rfl
theorem q5_137 : (Cond.constantLong RX7 219 (2111) : Cond) ∈ lw_w := tb5 _ (List.mem_of_getElem? (i := 137) rfl) rfl
theorem q4_39 : (Cond.fieldLink RX7 211 "MeterPoolModel" "hash" "J" : Cond) ∈ lw_w := tb4 _ (List.mem_of_getElem? (i := 39) rfl) rfl
theorem q5_138 : (Cond.methodLink RX7 215 yX7_mix : Cond) ∈ lw_w := tb5 _ (List.mem_of_getElem? (i := 138) rfl) rfl
theorem q5_140 : (Cond.instanceMethod yX7_mix : Cond) ∈ lw_w := tb5 _ (List.mem_of_getElem? (i := 140) rfl) rfl
theorem qs70 : (Cond.selects RX7 yX7_mix yX7_mix : Cond) ∈ lw_w := List.mem_filter.mpr ⟨List.mem_append_left _ (List.mem_of_getElem? (i := 70) rfl), rfl⟩
theorem q5_141 : (Cond.code yX7_mix cX7_mix 3 none : Cond) ∈ lw_w := tb5 _ (List.mem_of_getElem? (i := 141) rfl) rfl
theorem q5_142 : (Cond.constantLong RX7 209 (31) : Cond) ∈ lw_w := tb5 _ (List.mem_of_getElem? (i := 142) rfl) rfl
theorem q5_143 : (Cond.methodLink RX7 221 yX7_mixThings : Cond) ∈ lw_w := tb5 _ (List.mem_of_getElem? (i := 143) rfl) rfl
theorem q5_145 : (Cond.instanceMethod yX7_mixThings : Cond) ∈ lw_w := tb5 _ (List.mem_of_getElem? (i := 145) rfl) rfl
theorem qs71 : (Cond.selects RX7 yX7_mixThings yX7_mixThings : Cond) ∈ lw_w := List.mem_filter.mpr ⟨List.mem_append_left _ (List.mem_of_getElem? (i := 71) rfl), rfl⟩
theorem q5_146 : (Cond.code yX7_mixThings cX7_mixThings 2 none : Cond) ∈ lw_w := tb5 _ (List.mem_of_getElem? (i := 146) rfl) rfl
theorem q5_147 : (Cond.methodLink RX7 224 yX7_met : Cond) ∈ lw_w := tb5 _ (List.mem_of_getElem? (i := 147) rfl) rfl
theorem q5_148 : (Cond.methodLink RX7 228 yJxe99ae_doubleToLongBits_ccdee : Cond) ∈ lw_w := tb5 _ (List.mem_of_getElem? (i := 148) rfl) rfl
theorem q5_149 : (Cond.static yJxe99ae_doubleToLongBits_ccdee : Cond) ∈ lw_w := tb5 _ (List.mem_of_getElem? (i := 149) rfl) rfl
theorem q1_11 : (Cond.initialized RJxe99ae : Cond) ∈ lw_w := tb1 _ (List.mem_of_getElem? (i := 11) rfl) rfl
theorem q5_150 : (Cond.code yJxe99ae_doubleToLongBits_ccdee cJxe99ae_doubleToLongBits_ccdee 2 (some .long) : Cond) ∈ lw_w := tb5 _ (List.mem_of_getElem? (i := 150) rfl) rfl
theorem q5_154 : (Cond.methodLink RJxe99ae 134 ⟨"java/lang/Double", "doubleToRawLongBits", "(D)J"⟩ : Cond) ∈ lw_w := tb5 _ (List.mem_of_getElem? (i := 154) rfl) rfl
theorem q5_156 : (Cond.native ⟨"java/lang/Double", "doubleToRawLongBits", "(D)J"⟩ : Cond) ∈ lw_w := tb5 _ (List.mem_of_getElem? (i := 156) rfl) rfl
theorem q5_155 : (Cond.static ⟨"java/lang/Double", "doubleToRawLongBits", "(D)J"⟩ : Cond) ∈ lw_w := tb5 _ (List.mem_of_getElem? (i := 155) rfl) rfl
theorem q5_157 : (Cond.constantLong RJxe99ae 137 (9221120237041090560) : Cond) ∈ lw_w := tb5 _ (List.mem_of_getElem? (i := 157) rfl) rfl
theorem q5_151 : (Cond.methodLink RJxe99ae 122 yJxe99ae_isNaN_b9ae7 : Cond) ∈ lw_w := tb5 _ (List.mem_of_getElem? (i := 151) rfl) rfl
theorem q5_152 : (Cond.static yJxe99ae_isNaN_b9ae7 : Cond) ∈ lw_w := tb5 _ (List.mem_of_getElem? (i := 152) rfl) rfl
theorem q5_153 : (Cond.code yJxe99ae_isNaN_b9ae7 cJxe99ae_isNaN_b9ae7 2 (some .boolean) : Cond) ∈ lw_w := tb5 _ (List.mem_of_getElem? (i := 153) rfl) rfl
theorem n1_28 : (Jvm.Cond.methodLinkNest "MeterPool$Village" (11 : Nat) ({ cls := "MeterPool$Houses", name := "<init>", desc := "()V" } : Jvm.MethodName) "MeterPool" : Cond) ∈ lw_tbl := List.mem_append_right _ (List.mem_append_left _ (List.mem_of_getElem? (i := 28) rfl))
theorem n1_76 : (Jvm.Cond.superclass "MeterPool$Houses" "java/lang/Object" : Cond) ∈ lw_tbl := List.mem_append_right _ (List.mem_append_left _ (List.mem_of_getElem? (i := 76) rfl))
theorem n1_80 : (Jvm.Cond.methodLinkNest "MeterPool$Village" (20 : Nat) ({ cls := "MeterPool$Loans", name := "<init>", desc := "()V" } : Jvm.MethodName) "MeterPool" : Cond) ∈ lw_tbl := List.mem_append_right _ (List.mem_append_left _ (List.mem_of_getElem? (i := 80) rfl))
theorem n1_102 : (Jvm.Cond.superclass "MeterPool$Loans" "java/lang/Object" : Cond) ∈ lw_tbl := List.mem_append_right _ (List.mem_append_left _ (List.mem_of_getElem? (i := 102) rfl))
theorem n1_121 : (Jvm.Cond.superclass "MeterPool$Batteries" "java/lang/Object" : Cond) ∈ lw_tbl := List.mem_append_right _ (List.mem_append_left _ (List.mem_of_getElem? (i := 121) rfl))
theorem n1_165 : (Jvm.Cond.superclass "MeterPool$Village" "java/lang/Object" : Cond) ∈ lw_tbl := List.mem_append_right _ (List.mem_append_left _ (List.mem_of_getElem? (i := 165) rfl))
theorem n1_173 : (Jvm.Cond.arrayOver (Jvm.ClassFile.FieldType.object "MeterPool$Village") : Cond) ∈ lw_tbl := List.mem_append_right _ (List.mem_append_left _ (List.mem_of_getElem? (i := 173) rfl))
theorem n1_182 : (Jvm.Cond.superclass "MeterPool$History" "java/lang/Object" : Cond) ∈ lw_tbl := List.mem_append_right _ (List.mem_append_left _ (List.mem_of_getElem? (i := 182) rfl))
theorem n1_185 : (Jvm.Cond.methodLinkNest "MeterPool" (36 : Nat) ({ cls := "MeterPool$ListText", name := "<init>", desc := "()V" } : Jvm.MethodName) "MeterPool" : Cond) ∈ lw_tbl := List.mem_append_right _ (List.mem_append_left _ (List.mem_of_getElem? (i := 185) rfl))
theorem n1_211 : (Jvm.Cond.superclass "MeterPool$ListText" "java/lang/Object" : Cond) ∈ lw_tbl := List.mem_append_right _ (List.mem_append_left _ (List.mem_of_getElem? (i := 211) rfl))
theorem n1_231 : (Jvm.Cond.superclass "MeterPool" "java/lang/Object" : Cond) ∈ lw_tbl := List.mem_append_right _ (List.mem_append_left _ (List.mem_of_getElem? (i := 231) rfl))
theorem n2_48 : (Jvm.Cond.laysStatic "MeterPool" "HOUSE_MOST" "[I" : Cond) ∈ lw_tbl := List.mem_append_right _ (List.mem_append_right _ (List.mem_append_left _ (List.mem_of_getElem? (i := 48) rfl)))
theorem n2_156 : (Jvm.Cond.laysStatic "MeterPool" "SETTING_MOST" "[I" : Cond) ∈ lw_tbl := List.mem_append_right _ (List.mem_append_right _ (List.mem_append_left _ (List.mem_of_getElem? (i := 156) rfl)))
theorem n2_165 : (Jvm.Cond.laysStatic "MeterPool" "BATTERY_LEAST" "[I" : Cond) ∈ lw_tbl := List.mem_append_right _ (List.mem_append_right _ (List.mem_append_left _ (List.mem_of_getElem? (i := 165) rfl)))
theorem n2_167 : (Jvm.Cond.laysStatic "MeterPool" "BATTERY_MOST" "[I" : Cond) ∈ lw_tbl := List.mem_append_right _ (List.mem_append_right _ (List.mem_append_left _ (List.mem_of_getElem? (i := 167) rfl)))
theorem n4_72 : (Jvm.Cond.superclass "MeterPoolModel" "java/lang/Object" : Cond) ∈ lw_tbl := List.mem_append_right _ (List.mem_append_right _ (List.mem_append_right _ (List.mem_append_right _ (List.mem_append_left _ (List.mem_of_getElem? (i := 72) rfl)))))
set_option maxRecDepth 100000 in
theorem inX0_0 : ∀ w ∈ wsX00, w ∈ lw_tbl ∧ goodWord w = true := by decide +kernel
theorem inX0 : ∀ w ∈ wsX00, w ∈ lw_w := fun w h => List.mem_filter.mpr (inX0_0 w h)
set_option maxRecDepth 100000 in
theorem inX1_0 : ∀ w ∈ wsX10, w ∈ lw_tbl ∧ goodWord w = true := by decide +kernel
theorem inX1 : ∀ w ∈ wsX10, w ∈ lw_w := fun w h => List.mem_filter.mpr (inX1_0 w h)
set_option maxRecDepth 100000 in
theorem inX2_0 : ∀ w ∈ wsX20, w ∈ lw_tbl ∧ goodWord w = true := by decide +kernel
theorem inX2 : ∀ w ∈ wsX20, w ∈ lw_w := fun w h => List.mem_filter.mpr (inX2_0 w h)
set_option maxRecDepth 100000 in
theorem inX3_0 : ∀ w ∈ wsX30, w ∈ lw_tbl ∧ goodWord w = true := by decide +kernel
theorem inX3 : ∀ w ∈ wsX30, w ∈ lw_w := fun w h => List.mem_filter.mpr (inX3_0 w h)
set_option maxRecDepth 100000 in
theorem inX4_0 : ∀ w ∈ wsX40, w ∈ lw_tbl ∧ goodWord w = true := by decide +kernel
theorem inX4 : ∀ w ∈ wsX40, w ∈ lw_w := fun w h => List.mem_filter.mpr (inX4_0 w h)
set_option maxRecDepth 100000 in
theorem inX5_0 : ∀ w ∈ wsX50, w ∈ lw_tbl ∧ goodWord w = true := by decide +kernel
theorem inX5 : ∀ w ∈ wsX50, w ∈ lw_w := fun w h => List.mem_filter.mpr (inX5_0 w h)
set_option maxRecDepth 100000 in
theorem inX6_0 : ∀ w ∈ wsX60, w ∈ lw_tbl ∧ goodWord w = true := by decide +kernel
theorem inX6 : ∀ w ∈ wsX60, w ∈ lw_w := fun w h => List.mem_filter.mpr (inX6_0 w h)
set_option maxRecDepth 100000 in
theorem inX7_0 : ∀ w ∈ wsX70, w ∈ lw_tbl ∧ goodWord w = true := by decide +kernel
theorem inX7 : ∀ w ∈ wsX70, w ∈ lw_w := fun w h => List.mem_filter.mpr (inX7_0 w h)
