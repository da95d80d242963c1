/-! every word of the tables, by its place -/
def lw_w : List Cond := lw_tbl.filter goodWord
theorem lw_w_in : ∀ w ∈ lw_w, w ∈ lw_tbl := fun w h => (List.mem_filter.mp h).1
theorem lw_gi : GoodIn lw_w lw_w := fun w hw => ⟨hw, good_of_word (List.mem_filter.mp hw).2⟩
theorem tb1 : ∀ w ∈ tables_1_1, goodWord w = true → w ∈ lw_w := fun _ h hg => List.mem_filter.mpr ⟨List.mem_append_right _ (List.mem_append_left _ h), hg⟩
theorem tb2 : ∀ w ∈ tables_1_2, goodWord w = true → w ∈ lw_w := fun _ h hg => List.mem_filter.mpr ⟨List.mem_append_right _ (List.mem_append_right _ (List.mem_append_left _ h)), hg⟩
theorem tb3 : ∀ w ∈ tables_1_3, goodWord w = true → w ∈ lw_w := fun _ h hg => List.mem_filter.mpr ⟨List.mem_append_right _ (List.mem_append_right _ (List.mem_append_right _ (h))), hg⟩
theorem q1_10 : (Cond.classLink RL 34 RX6 : Cond) ∈ lw_w := tb1 _ (List.mem_of_getElem? (i := 10) rfl) rfl
theorem q1_11 : (Cond.instantiable RX6 6 : Cond) ∈ lw_w := tb1 _ (List.mem_of_getElem? (i := 11) rfl) rfl
theorem q1_1 : (Cond.initialized RX6 : Cond) ∈ lw_w := tb1 _ (List.mem_of_getElem? (i := 1) rfl) rfl
theorem q1_73 : (Cond.arrayClass .int : Cond) ∈ lw_w := tb1 _ (List.mem_of_getElem? (i := 73) rfl) rfl
theorem q1_12 : (Cond.methodLink RL 93 yX6_init : Cond) ∈ lw_w := tb1 _ (List.mem_of_getElem? (i := 12) rfl) rfl
theorem q1_13 : (Cond.instanceMethod yX6_init : Cond) ∈ lw_w := tb1 _ (List.mem_of_getElem? (i := 13) rfl) rfl
theorem q1_14 : (Cond.code yX6_init cX6_init 2 none : Cond) ∈ lw_w := tb1 _ (List.mem_of_getElem? (i := 14) rfl) rfl
theorem q1_15 : (Cond.methodLink RX6 1 objectInit : Cond) ∈ lw_w := tb1 _ (List.mem_of_getElem? (i := 15) rfl) rfl
theorem q1_16 : (Cond.instanceMethod objectInit : Cond) ∈ lw_w := tb1 _ (List.mem_of_getElem? (i := 16) rfl) rfl
theorem q1_17 : (Cond.code objectInit ⟨#[0xb1]⟩ 1 none : Cond) ∈ lw_w := tb1 _ (List.mem_of_getElem? (i := 17) rfl) rfl
theorem q1_18 : (Cond.classLink RX6 7 RX5 : Cond) ∈ lw_w := tb1 _ (List.mem_of_getElem? (i := 18) rfl) rfl
theorem q1_19 : (Cond.instantiable RX5 11 : Cond) ∈ lw_w := tb1 _ (List.mem_of_getElem? (i := 19) rfl) rfl
theorem q1_2 : (Cond.initialized RX5 : Cond) ∈ lw_w := tb1 _ (List.mem_of_getElem? (i := 2) rfl) rfl
theorem q1_200 : (Cond.fieldLink RX6 10 "MeterPool" "now" "LMeterPool$Village;" : Cond) ∈ lw_w := tb1 _ (List.mem_of_getElem? (i := 200) rfl) rfl
theorem q1_201 : (Cond.fieldLink RX6 16 "MeterPool" "ahead" "LMeterPool$Village;" : Cond) ∈ lw_w := tb1 _ (List.mem_of_getElem? (i := 201) rfl) rfl
theorem q1_161 : (Cond.classLink RX6 19 RX1 : Cond) ∈ lw_w := tb1 _ (List.mem_of_getElem? (i := 161) rfl) rfl
theorem q1_162 : (Cond.instantiable RX1 2 : Cond) ∈ lw_w := tb1 _ (List.mem_of_getElem? (i := 162) rfl) rfl
theorem q1_6 : (Cond.initialized RX1 : Cond) ∈ lw_w := tb1 _ (List.mem_of_getElem? (i := 6) rfl) rfl
theorem q1_202 : (Cond.fieldLink RX6 22 "MeterPool" "history" "LMeterPool$History;" : Cond) ∈ lw_w := tb1 _ (List.mem_of_getElem? (i := 202) rfl) rfl
theorem q1_203 : (Cond.fieldLink RX6 26 "MeterPool" "images" "[LMeterPool$Village;" : Cond) ∈ lw_w := tb1 _ (List.mem_of_getElem? (i := 203) rfl) rfl
theorem q1_199 : (Cond.arrayClass .boolean : Cond) ∈ lw_w := tb1 _ (List.mem_of_getElem? (i := 199) rfl) rfl
theorem q1_204 : (Cond.fieldLink RX6 30 "MeterPool" "kept" "[Z" : Cond) ∈ lw_w := tb1 _ (List.mem_of_getElem? (i := 204) rfl) rfl
theorem q1_178 : (Cond.classLink RX6 34 RX3 : Cond) ∈ lw_w := tb1 _ (List.mem_of_getElem? (i := 178) rfl) rfl
theorem q1_179 : (Cond.instantiable RX3 6 : Cond) ∈ lw_w := tb1 _ (List.mem_of_getElem? (i := 179) rfl) rfl
theorem q1_7 : (Cond.initialized RX3 : Cond) ∈ lw_w := tb1 _ (List.mem_of_getElem? (i := 7) rfl) rfl
theorem q1_205 : (Cond.fieldLink RX6 37 "MeterPool" "text" "LMeterPool$ListText;" : Cond) ∈ lw_w := tb1 _ (List.mem_of_getElem? (i := 205) rfl) rfl
theorem q1_20 : (Cond.methodLink RX6 9 yX5_init : Cond) ∈ lw_w := tb1 _ (List.mem_of_getElem? (i := 20) rfl) rfl
theorem q1_21 : (Cond.instanceMethod yX5_init : Cond) ∈ lw_w := tb1 _ (List.mem_of_getElem? (i := 21) rfl) rfl
theorem q1_22 : (Cond.code yX5_init cX5_init 1 none : Cond) ∈ lw_w := tb1 _ (List.mem_of_getElem? (i := 22) rfl) rfl
theorem q1_23 : (Cond.methodLink RX5 3 objectInit : Cond) ∈ lw_w := tb1 _ (List.mem_of_getElem? (i := 23) rfl) rfl
theorem q1_24 : (Cond.classLink RX5 9 RX2 : Cond) ∈ lw_w := tb1 _ (List.mem_of_getElem? (i := 24) rfl) rfl
theorem q1_25 : (Cond.instantiable RX2 11 : Cond) ∈ lw_w := tb1 _ (List.mem_of_getElem? (i := 25) rfl) rfl
theorem q1_3 : (Cond.initialized RX2 : Cond) ∈ lw_w := tb1 _ (List.mem_of_getElem? (i := 3) rfl) rfl
theorem q1_117 : (Cond.fieldLink RX5 12 "MeterPool$Village" "houses" "LMeterPool$Houses;" : Cond) ∈ lw_w := tb1 _ (List.mem_of_getElem? (i := 117) rfl) rfl
theorem q1_74 : (Cond.classLink RX5 18 RX4 : Cond) ∈ lw_w := tb1 _ (List.mem_of_getElem? (i := 74) rfl) rfl
theorem q1_75 : (Cond.instantiable RX4 4 : Cond) ∈ lw_w := tb1 _ (List.mem_of_getElem? (i := 75) rfl) rfl
theorem q1_4 : (Cond.initialized RX4 : Cond) ∈ lw_w := tb1 _ (List.mem_of_getElem? (i := 4) rfl) rfl
theorem q1_119 : (Cond.fieldLink RX5 21 "MeterPool$Village" "loans" "LMeterPool$Loans;" : Cond) ∈ lw_w := tb1 _ (List.mem_of_getElem? (i := 119) rfl) rfl
theorem q1_98 : (Cond.classLink RX5 25 RX0 : Cond) ∈ lw_w := tb1 _ (List.mem_of_getElem? (i := 98) rfl) rfl
theorem q1_99 : (Cond.instantiable RX0 4 : Cond) ∈ lw_w := tb1 _ (List.mem_of_getElem? (i := 99) rfl) rfl
theorem q1_5 : (Cond.initialized RX0 : Cond) ∈ lw_w := tb1 _ (List.mem_of_getElem? (i := 5) rfl) rfl
theorem q1_121 : (Cond.fieldLink RX5 28 "MeterPool$Village" "batteries" "LMeterPool$Batteries;" : Cond) ∈ lw_w := tb1 _ (List.mem_of_getElem? (i := 121) rfl) rfl
theorem q1_123 : (Cond.fieldLink RX5 32 "MeterPool$Village" "settings" "[I" : Cond) ∈ lw_w := tb1 _ (List.mem_of_getElem? (i := 123) rfl) rfl
theorem q1_125 : (Cond.fieldLink RX5 36 "MeterPool$Village" "accounts" "[I" : Cond) ∈ lw_w := tb1 _ (List.mem_of_getElem? (i := 125) rfl) rfl
theorem q1_127 : (Cond.fieldLink RX5 39 "MeterPool$Village" "shedHours" "[I" : Cond) ∈ lw_w := tb1 _ (List.mem_of_getElem? (i := 127) rfl) rfl
theorem q1_129 : (Cond.fieldLink RX5 42 "MeterPool$Village" "shedLatest" "[I" : Cond) ∈ lw_w := tb1 _ (List.mem_of_getElem? (i := 129) rfl) rfl
theorem q1_131 : (Cond.fieldLink RX5 45 "MeterPool$Village" "list" "[I" : Cond) ∈ lw_w := tb1 _ (List.mem_of_getElem? (i := 131) rfl) rfl
theorem q1_132 : (Cond.fieldLink RX5 48 "MeterPool$Village" "listSize" "I" : Cond) ∈ lw_w := tb1 _ (List.mem_of_getElem? (i := 132) rfl) rfl
theorem q1_134 : (Cond.fieldLink RX5 52 "MeterPool$Village" "hour" "I" : Cond) ∈ lw_w := tb1 _ (List.mem_of_getElem? (i := 134) rfl) rfl
theorem q1_136 : (Cond.fieldLink RX5 55 "MeterPool$Village" "turn" "I" : Cond) ∈ lw_w := tb1 _ (List.mem_of_getElem? (i := 136) rfl) rfl
theorem q1_27 : (Cond.instanceMethod yX2_init : Cond) ∈ lw_w := tb1 _ (List.mem_of_getElem? (i := 27) rfl) rfl
theorem q1_28 : (Cond.code yX2_init cX2_init 1 none : Cond) ∈ lw_w := tb1 _ (List.mem_of_getElem? (i := 28) rfl) rfl
theorem q1_29 : (Cond.methodLink RX2 3 objectInit : Cond) ∈ lw_w := tb1 _ (List.mem_of_getElem? (i := 29) rfl) rfl
theorem q1_33 : (Cond.fieldLink RX2 9 "MeterPool$Houses" "feeder" "[I" : Cond) ∈ lw_w := tb1 _ (List.mem_of_getElem? (i := 33) rfl) rfl
theorem q1_35 : (Cond.fieldLink RX2 15 "MeterPool$Houses" "demand" "[I" : Cond) ∈ lw_w := tb1 _ (List.mem_of_getElem? (i := 35) rfl) rfl
theorem q1_37 : (Cond.fieldLink RX2 18 "MeterPool$Houses" "debt" "[I" : Cond) ∈ lw_w := tb1 _ (List.mem_of_getElem? (i := 37) rfl) rfl
theorem q1_39 : (Cond.fieldLink RX2 21 "MeterPool$Houses" "connected" "[I" : Cond) ∈ lw_w := tb1 _ (List.mem_of_getElem? (i := 39) rfl) rfl
theorem q1_40 : (Cond.fieldLink RX2 24 "MeterPool$Houses" "credit" "[I" : Cond) ∈ lw_w := tb1 _ (List.mem_of_getElem? (i := 40) rfl) rfl
theorem q1_43 : (Cond.fieldLink RX2 27 "MeterPool$Houses" "got" "[I" : Cond) ∈ lw_w := tb1 _ (List.mem_of_getElem? (i := 43) rfl) rfl
theorem q1_45 : (Cond.fieldLink RX2 30 "MeterPool$Houses" "reason" "[I" : Cond) ∈ lw_w := tb1 _ (List.mem_of_getElem? (i := 45) rfl) rfl
theorem q1_46 : (Cond.fieldLink RX2 33 "MeterPool$Houses" "gotEver" "[I" : Cond) ∈ lw_w := tb1 _ (List.mem_of_getElem? (i := 46) rfl) rfl
theorem q1_47 : (Cond.fieldLink RX2 36 "MeterPool$Houses" "could" "[I" : Cond) ∈ lw_w := tb1 _ (List.mem_of_getElem? (i := 47) rfl) rfl
theorem q1_48 : (Cond.fieldLink RX2 39 "MeterPool$Houses" "wants" "[I" : Cond) ∈ lw_w := tb1 _ (List.mem_of_getElem? (i := 48) rfl) rfl
theorem q1_77 : (Cond.instanceMethod yX4_init : Cond) ∈ lw_w := tb1 _ (List.mem_of_getElem? (i := 77) rfl) rfl
theorem q1_78 : (Cond.code yX4_init cX4_init 1 none : Cond) ∈ lw_w := tb1 _ (List.mem_of_getElem? (i := 78) rfl) rfl
theorem q1_79 : (Cond.methodLink RX4 3 objectInit : Cond) ∈ lw_w := tb1 _ (List.mem_of_getElem? (i := 79) rfl) rfl
theorem q1_83 : (Cond.fieldLink RX4 9 "MeterPool$Loans" "lender" "[I" : Cond) ∈ lw_w := tb1 _ (List.mem_of_getElem? (i := 83) rfl) rfl
theorem q1_85 : (Cond.fieldLink RX4 15 "MeterPool$Loans" "borrower" "[I" : Cond) ∈ lw_w := tb1 _ (List.mem_of_getElem? (i := 85) rfl) rfl
theorem q1_87 : (Cond.fieldLink RX4 18 "MeterPool$Loans" "owed" "[I" : Cond) ∈ lw_w := tb1 _ (List.mem_of_getElem? (i := 87) rfl) rfl
theorem q1_100 : (Cond.methodLink RX5 27 yX0_init : Cond) ∈ lw_w := tb1 _ (List.mem_of_getElem? (i := 100) rfl) rfl
theorem q1_101 : (Cond.instanceMethod yX0_init : Cond) ∈ lw_w := tb1 _ (List.mem_of_getElem? (i := 101) rfl) rfl
theorem q1_102 : (Cond.code yX0_init cX0_init 2 none : Cond) ∈ lw_w := tb1 _ (List.mem_of_getElem? (i := 102) rfl) rfl
theorem q1_103 : (Cond.methodLink RX0 3 objectInit : Cond) ∈ lw_w := tb1 _ (List.mem_of_getElem? (i := 103) rfl) rfl
theorem q1_104 : (Cond.fieldLink RX0 9 "MeterPool$Batteries" "capacity" "[I" : Cond) ∈ lw_w := tb1 _ (List.mem_of_getElem? (i := 104) rfl) rfl
theorem q1_105 : (Cond.fieldLink RX0 15 "MeterPool$Batteries" "rate" "[I" : Cond) ∈ lw_w := tb1 _ (List.mem_of_getElem? (i := 105) rfl) rfl
theorem q1_106 : (Cond.fieldLink RX0 18 "MeterPool$Batteries" "efficiency" "[I" : Cond) ∈ lw_w := tb1 _ (List.mem_of_getElem? (i := 106) rfl) rfl
theorem q1_107 : (Cond.fieldLink RX0 21 "MeterPool$Batteries" "charge" "[I" : Cond) ∈ lw_w := tb1 _ (List.mem_of_getElem? (i := 107) rfl) rfl
theorem q1_163 : (Cond.methodLink RX6 21 yX1_init : Cond) ∈ lw_w := tb1 _ (List.mem_of_getElem? (i := 163) rfl) rfl
theorem q1_164 : (Cond.instanceMethod yX1_init : Cond) ∈ lw_w := tb1 _ (List.mem_of_getElem? (i := 164) rfl) rfl
theorem q1_165 : (Cond.code yX1_init cX1_init 2 none : Cond) ∈ lw_w := tb1 _ (List.mem_of_getElem? (i := 165) rfl) rfl
theorem q1_166 : (Cond.methodLink RX1 3 objectInit : Cond) ∈ lw_w := tb1 _ (List.mem_of_getElem? (i := 166) rfl) rfl
theorem q1_167 : (Cond.classLink RX1 9 RX5 : Cond) ∈ lw_w := tb1 _ (List.mem_of_getElem? (i := 167) rfl) rfl
theorem q1_172 : (Cond.fieldLink RX1 11 "MeterPool$History" "states" "[LMeterPool$Village;" : Cond) ∈ lw_w := tb1 _ (List.mem_of_getElem? (i := 172) rfl) rfl
theorem q1_169 : (Cond.methodLink RX1 17 yX5_init : Cond) ∈ lw_w := tb1 _ (List.mem_of_getElem? (i := 169) rfl) rfl
theorem q1_181 : (Cond.instanceMethod yX3_init : Cond) ∈ lw_w := tb1 _ (List.mem_of_getElem? (i := 181) rfl) rfl
theorem q1_182 : (Cond.code yX3_init cX3_init 1 none : Cond) ∈ lw_w := tb1 _ (List.mem_of_getElem? (i := 182) rfl) rfl
theorem q1_183 : (Cond.methodLink RX3 3 objectInit : Cond) ∈ lw_w := tb1 _ (List.mem_of_getElem? (i := 183) rfl) rfl
theorem q1_184 : (Cond.fieldLink RX3 9 "MeterPool$ListText" "codes" "[I" : Cond) ∈ lw_w := tb1 _ (List.mem_of_getElem? (i := 184) rfl) rfl
theorem q1_185 : (Cond.fieldLink RX3 15 "MeterPool$ListText" "numbers" "[I" : Cond) ∈ lw_w := tb1 _ (List.mem_of_getElem? (i := 185) rfl) rfl
theorem q1_226 : (Cond.methodLink RL 94 yL_fresh : Cond) ∈ lw_w := tb1 _ (List.mem_of_getElem? (i := 226) rfl) rfl
theorem q1_227 : (Cond.static yL_fresh : Cond) ∈ lw_w := tb1 _ (List.mem_of_getElem? (i := 227) rfl) rfl
theorem q1_0 : (Cond.initialized RL : Cond) ∈ lw_w := tb1 _ (List.mem_of_getElem? (i := 0) rfl) rfl
theorem q1_228 : (Cond.code yL_fresh cL_fresh 4 none : Cond) ∈ lw_w := tb1 _ (List.mem_of_getElem? (i := 228) rfl) rfl
theorem q3_21 : (Cond.methodLink RL 98 yL_told : Cond) ∈ lw_w := tb3 _ (List.mem_of_getElem? (i := 21) rfl) rfl
theorem q3_22 : (Cond.static yL_told : Cond) ∈ lw_w := tb3 _ (List.mem_of_getElem? (i := 22) rfl) rfl
theorem q3_23 : (Cond.code yL_told cL_told 13 (some .boolean) : Cond) ∈ lw_w := tb3 _ (List.mem_of_getElem? (i := 23) rfl) rfl
theorem q3_24 : (Cond.methodLink RL 68 yX6_house : Cond) ∈ lw_w := tb3 _ (List.mem_of_getElem? (i := 24) rfl) rfl
theorem q3_25 : (Cond.instanceMethod yX6_house : Cond) ∈ lw_w := tb3 _ (List.mem_of_getElem? (i := 25) rfl) rfl
theorem q3_26 : (Cond.selects RX6 yX6_house yX6_house : Cond) ∈ lw_w := tb3 _ (List.mem_of_getElem? (i := 26) rfl) rfl
theorem q3_27 : (Cond.code yX6_house cX6_house 3 (some .int) : Cond) ∈ lw_w := tb3 _ (List.mem_of_getElem? (i := 27) rfl) rfl
theorem q1_239 : (Cond.constant RX6 45 (-1000002) : Cond) ∈ lw_w := tb1 _ (List.mem_of_getElem? (i := 239) rfl) rfl
theorem q1_118 : (Cond.fieldLink RX6 46 "MeterPool$Village" "houses" "LMeterPool$Houses;" : Cond) ∈ lw_w := tb1 _ (List.mem_of_getElem? (i := 118) rfl) rfl
theorem q1_124 : (Cond.fieldLink RX6 124 "MeterPool$Village" "settings" "[I" : Cond) ∈ lw_w := tb1 _ (List.mem_of_getElem? (i := 124) rfl) rfl
theorem q1_120 : (Cond.fieldLink RX6 80 "MeterPool$Village" "loans" "LMeterPool$Loans;" : Cond) ∈ lw_w := tb1 _ (List.mem_of_getElem? (i := 120) rfl) rfl
theorem q2_46 : (Cond.methodLink RX6 65 yX6_isHouse : Cond) ∈ lw_w := tb2 _ (List.mem_of_getElem? (i := 46) rfl) rfl
theorem q2_48 : (Cond.instanceMethod yX6_isHouse : Cond) ∈ lw_w := tb2 _ (List.mem_of_getElem? (i := 48) rfl) rfl
theorem qs1 : (Cond.selects RX6 yX6_isHouse yX6_isHouse : Cond) ∈ lw_w := List.mem_filter.mpr ⟨List.mem_append_left _ (List.mem_of_getElem? (i := 1) rfl), rfl⟩
theorem q2_49 : (Cond.code yX6_isHouse cX6_isHouse 2 (some .boolean) : Cond) ∈ lw_w := tb2 _ (List.mem_of_getElem? (i := 49) rfl) rfl
theorem q1_31 : (Cond.fieldLink RX6 50 "MeterPool$Houses" "size" "I" : Cond) ∈ lw_w := tb1 _ (List.mem_of_getElem? (i := 31) rfl) rfl
theorem q1_236 : (Cond.methodLink RX6 41 yX6_within : Cond) ∈ lw_w := tb1 _ (List.mem_of_getElem? (i := 236) rfl) rfl
theorem q1_237 : (Cond.static yX6_within : Cond) ∈ lw_w := tb1 _ (List.mem_of_getElem? (i := 237) rfl) rfl
theorem q1_238 : (Cond.code yX6_within cX6_within 3 (some .boolean) : Cond) ∈ lw_w := tb1 _ (List.mem_of_getElem? (i := 238) rfl) rfl
theorem q3_28 : (Cond.methodLink RX6 188 yX2_canDraw : Cond) ∈ lw_w := tb3 _ (List.mem_of_getElem? (i := 28) rfl) rfl
theorem q2_208 : (Cond.instanceMethod yX2_canDraw : Cond) ∈ lw_w := tb2 _ (List.mem_of_getElem? (i := 208) rfl) rfl
theorem q2_209 : (Cond.selects RX2 yX2_canDraw yX2_canDraw : Cond) ∈ lw_w := tb2 _ (List.mem_of_getElem? (i := 209) rfl) rfl
theorem q2_210 : (Cond.code yX2_canDraw cX2_canDraw 3 (some .int) : Cond) ∈ lw_w := tb2 _ (List.mem_of_getElem? (i := 210) rfl) rfl
theorem q2_211 : (Cond.methodLink RX2 52 Lib.Math.min.name : Cond) ∈ lw_w := tb2 _ (List.mem_of_getElem? (i := 211) rfl) rfl
theorem q2_89 : (Cond.static Lib.Math.min.name : Cond) ∈ lw_w := tb2 _ (List.mem_of_getElem? (i := 89) rfl) rfl
theorem q1_8 : (Cond.initialized "java/lang/Math" : Cond) ∈ lw_w := tb1 _ (List.mem_of_getElem? (i := 8) rfl) rfl
theorem q2_90 : (Cond.code Lib.Math.min.name Lib.Math.min.code 2 (some .int) : Cond) ∈ lw_w := tb2 _ (List.mem_of_getElem? (i := 90) rfl) rfl
theorem q2_212 : (Cond.methodLink RX2 58 Lib.Math.max.name : Cond) ∈ lw_w := tb2 _ (List.mem_of_getElem? (i := 212) rfl) rfl
theorem q2_100 : (Cond.static Lib.Math.max.name : Cond) ∈ lw_w := tb2 _ (List.mem_of_getElem? (i := 100) rfl) rfl
theorem q2_101 : (Cond.code Lib.Math.max.name Lib.Math.max.code 2 (some .int) : Cond) ∈ lw_w := tb2 _ (List.mem_of_getElem? (i := 101) rfl) rfl
theorem q3_29 : (Cond.methodLink RX6 191 yX4_owedBy : Cond) ∈ lw_w := tb3 _ (List.mem_of_getElem? (i := 29) rfl) rfl
theorem q2_132 : (Cond.instanceMethod yX4_owedBy : Cond) ∈ lw_w := tb2 _ (List.mem_of_getElem? (i := 132) rfl) rfl
theorem q2_133 : (Cond.selects RX4 yX4_owedBy yX4_owedBy : Cond) ∈ lw_w := tb2 _ (List.mem_of_getElem? (i := 133) rfl) rfl
theorem q2_134 : (Cond.code yX4_owedBy cX4_owedBy 2 (some .int) : Cond) ∈ lw_w := tb2 _ (List.mem_of_getElem? (i := 134) rfl) rfl
theorem q2_135 : (Cond.methodLink RX4 31 yX4_sumOwed : Cond) ∈ lw_w := tb2 _ (List.mem_of_getElem? (i := 135) rfl) rfl
theorem q2_137 : (Cond.instanceMethod yX4_sumOwed : Cond) ∈ lw_w := tb2 _ (List.mem_of_getElem? (i := 137) rfl) rfl
theorem qs2 : (Cond.selects RX4 yX4_sumOwed yX4_sumOwed : Cond) ∈ lw_w := List.mem_filter.mpr ⟨List.mem_append_left _ (List.mem_of_getElem? (i := 2) rfl), rfl⟩
theorem q2_138 : (Cond.code yX4_sumOwed cX4_sumOwed 5 (some .int) : Cond) ∈ lw_w := tb2 _ (List.mem_of_getElem? (i := 138) rfl) rfl
theorem q1_80 : (Cond.fieldLink RX4 21 "MeterPool$Loans" "size" "I" : Cond) ∈ lw_w := tb1 _ (List.mem_of_getElem? (i := 80) rfl) rfl
theorem q3_30 : (Cond.methodLink RX6 194 yX4_owedTo : Cond) ∈ lw_w := tb3 _ (List.mem_of_getElem? (i := 30) rfl) rfl
theorem q3_31 : (Cond.instanceMethod yX4_owedTo : Cond) ∈ lw_w := tb3 _ (List.mem_of_getElem? (i := 31) rfl) rfl
theorem q3_32 : (Cond.selects RX4 yX4_owedTo yX4_owedTo : Cond) ∈ lw_w := tb3 _ (List.mem_of_getElem? (i := 32) rfl) rfl
theorem q3_33 : (Cond.code yX4_owedTo cX4_owedTo 2 (some .int) : Cond) ∈ lw_w := tb3 _ (List.mem_of_getElem? (i := 33) rfl) rfl
theorem q2_52 : (Cond.methodLink RX6 73 yX2_told : Cond) ∈ lw_w := tb2 _ (List.mem_of_getElem? (i := 52) rfl) rfl
theorem q2_53 : (Cond.instanceMethod yX2_told : Cond) ∈ lw_w := tb2 _ (List.mem_of_getElem? (i := 53) rfl) rfl
theorem q2_54 : (Cond.selects RX2 yX2_told yX2_told : Cond) ∈ lw_w := tb2 _ (List.mem_of_getElem? (i := 54) rfl) rfl
theorem q2_55 : (Cond.code yX2_told cX2_told 3 (some .int) : Cond) ∈ lw_w := tb2 _ (List.mem_of_getElem? (i := 55) rfl) rfl
theorem q2_177 : (Cond.methodLink RL 8 yL_draw : Cond) ∈ lw_w := tb2 _ (List.mem_of_getElem? (i := 177) rfl) rfl
theorem q2_178 : (Cond.static yL_draw : Cond) ∈ lw_w := tb2 _ (List.mem_of_getElem? (i := 178) rfl) rfl
theorem q2_179 : (Cond.code yL_draw cL_draw 4 (some .int) : Cond) ∈ lw_w := tb2 _ (List.mem_of_getElem? (i := 179) rfl) rfl
theorem q2_108 : (Cond.methodLink RL 22 yL_owes : Cond) ∈ lw_w := tb2 _ (List.mem_of_getElem? (i := 108) rfl) rfl
theorem q2_109 : (Cond.static yL_owes : Cond) ∈ lw_w := tb2 _ (List.mem_of_getElem? (i := 109) rfl) rfl
theorem q2_110 : (Cond.code yL_owes cL_owes 6 (some .int) : Cond) ∈ lw_w := tb2 _ (List.mem_of_getElem? (i := 110) rfl) rfl
theorem q3_34 : (Cond.methodLink RL 71 yX6_loan : Cond) ∈ lw_w := tb3 _ (List.mem_of_getElem? (i := 34) rfl) rfl
theorem q3_35 : (Cond.instanceMethod yX6_loan : Cond) ∈ lw_w := tb3 _ (List.mem_of_getElem? (i := 35) rfl) rfl
theorem q3_36 : (Cond.selects RX6 yX6_loan yX6_loan : Cond) ∈ lw_w := tb3 _ (List.mem_of_getElem? (i := 36) rfl) rfl
theorem q3_37 : (Cond.code yX6_loan cX6_loan 3 (some .int) : Cond) ∈ lw_w := tb3 _ (List.mem_of_getElem? (i := 37) rfl) rfl
theorem q3_38 : (Cond.methodLink RX6 107 yX6_isLoan : Cond) ∈ lw_w := tb3 _ (List.mem_of_getElem? (i := 38) rfl) rfl
theorem q3_40 : (Cond.instanceMethod yX6_isLoan : Cond) ∈ lw_w := tb3 _ (List.mem_of_getElem? (i := 40) rfl) rfl
theorem qs10 : (Cond.selects RX6 yX6_isLoan yX6_isLoan : Cond) ∈ lw_w := List.mem_filter.mpr ⟨List.mem_append_left _ (List.mem_of_getElem? (i := 10) rfl), rfl⟩
theorem q3_41 : (Cond.code yX6_isLoan cX6_isLoan 2 (some .boolean) : Cond) ∈ lw_w := tb3 _ (List.mem_of_getElem? (i := 41) rfl) rfl
theorem q1_81 : (Cond.fieldLink RX6 104 "MeterPool$Loans" "size" "I" : Cond) ∈ lw_w := tb1 _ (List.mem_of_getElem? (i := 81) rfl) rfl
theorem q3_42 : (Cond.methodLink RX6 197 yX4_told : Cond) ∈ lw_w := tb3 _ (List.mem_of_getElem? (i := 42) rfl) rfl
theorem q3_43 : (Cond.instanceMethod yX4_told : Cond) ∈ lw_w := tb3 _ (List.mem_of_getElem? (i := 43) rfl) rfl
theorem q3_44 : (Cond.selects RX4 yX4_told yX4_told : Cond) ∈ lw_w := tb3 _ (List.mem_of_getElem? (i := 44) rfl) rfl
theorem q3_45 : (Cond.code yX4_told cX4_told 3 (some .int) : Cond) ∈ lw_w := tb3 _ (List.mem_of_getElem? (i := 45) rfl) rfl
theorem q3_46 : (Cond.methodLink RL 74 yX6_battery : Cond) ∈ lw_w := tb3 _ (List.mem_of_getElem? (i := 46) rfl) rfl
theorem q3_47 : (Cond.instanceMethod yX6_battery : Cond) ∈ lw_w := tb3 _ (List.mem_of_getElem? (i := 47) rfl) rfl
theorem q3_48 : (Cond.selects RX6 yX6_battery yX6_battery : Cond) ∈ lw_w := tb3 _ (List.mem_of_getElem? (i := 48) rfl) rfl
theorem q3_49 : (Cond.code yX6_battery cX6_battery 3 (some .int) : Cond) ∈ lw_w := tb3 _ (List.mem_of_getElem? (i := 49) rfl) rfl
theorem q1_122 : (Cond.fieldLink RX6 136 "MeterPool$Village" "batteries" "LMeterPool$Batteries;" : Cond) ∈ lw_w := tb1 _ (List.mem_of_getElem? (i := 122) rfl) rfl
theorem q2_73 : (Cond.methodLink RX6 127 yX6_isBattery : Cond) ∈ lw_w := tb2 _ (List.mem_of_getElem? (i := 73) rfl) rfl
theorem q2_74 : (Cond.static yX6_isBattery : Cond) ∈ lw_w := tb2 _ (List.mem_of_getElem? (i := 74) rfl) rfl
theorem q2_75 : (Cond.code yX6_isBattery cX6_isBattery 1 (some .boolean) : Cond) ∈ lw_w := tb2 _ (List.mem_of_getElem? (i := 75) rfl) rfl
theorem q2_80 : (Cond.methodLink RX6 140 yX0_told : Cond) ∈ lw_w := tb2 _ (List.mem_of_getElem? (i := 80) rfl) rfl
theorem q2_81 : (Cond.instanceMethod yX0_told : Cond) ∈ lw_w := tb2 _ (List.mem_of_getElem? (i := 81) rfl) rfl
theorem q2_82 : (Cond.selects RX0 yX0_told yX0_told : Cond) ∈ lw_w := tb2 _ (List.mem_of_getElem? (i := 82) rfl) rfl
theorem q2_83 : (Cond.code yX0_told cX0_told 3 (some .int) : Cond) ∈ lw_w := tb2 _ (List.mem_of_getElem? (i := 83) rfl) rfl
theorem q2_84 : (Cond.methodLink RX0 30 yX0_canGive : Cond) ∈ lw_w := tb2 _ (List.mem_of_getElem? (i := 84) rfl) rfl
theorem q2_85 : (Cond.instanceMethod yX0_canGive : Cond) ∈ lw_w := tb2 _ (List.mem_of_getElem? (i := 85) rfl) rfl
theorem q2_86 : (Cond.selects RX0 yX0_canGive yX0_canGive : Cond) ∈ lw_w := tb2 _ (List.mem_of_getElem? (i := 86) rfl) rfl
theorem q2_87 : (Cond.code yX0_canGive cX0_canGive 2 (some .int) : Cond) ∈ lw_w := tb2 _ (List.mem_of_getElem? (i := 87) rfl) rfl
theorem q2_88 : (Cond.methodLink RX0 40 Lib.Math.min.name : Cond) ∈ lw_w := tb2 _ (List.mem_of_getElem? (i := 88) rfl) rfl
theorem q2_171 : (Cond.methodLink RL 14 yL_give : Cond) ∈ lw_w := tb2 _ (List.mem_of_getElem? (i := 171) rfl) rfl
theorem q2_172 : (Cond.static yL_give : Cond) ∈ lw_w := tb2 _ (List.mem_of_getElem? (i := 172) rfl) rfl
theorem q2_173 : (Cond.code yL_give cL_give 2 (some .int) : Cond) ∈ lw_w := tb2 _ (List.mem_of_getElem? (i := 173) rfl) rfl
theorem q3_50 : (Cond.methodLink RL 77 yX6_feeder : Cond) ∈ lw_w := tb3 _ (List.mem_of_getElem? (i := 50) rfl) rfl
theorem q3_51 : (Cond.instanceMethod yX6_feeder : Cond) ∈ lw_w := tb3 _ (List.mem_of_getElem? (i := 51) rfl) rfl
theorem q3_52 : (Cond.selects RX6 yX6_feeder yX6_feeder : Cond) ∈ lw_w := tb3 _ (List.mem_of_getElem? (i := 52) rfl) rfl
theorem q3_53 : (Cond.code yX6_feeder cX6_feeder 3 (some .int) : Cond) ∈ lw_w := tb3 _ (List.mem_of_getElem? (i := 53) rfl) rfl
theorem q1_41 : (Cond.fieldLink RX6 101 "MeterPool$Houses" "credit" "[I" : Cond) ∈ lw_w := tb1 _ (List.mem_of_getElem? (i := 41) rfl) rfl
theorem q1_128 : (Cond.fieldLink RX6 208 "MeterPool$Village" "shedHours" "[I" : Cond) ∈ lw_w := tb1 _ (List.mem_of_getElem? (i := 128) rfl) rfl
theorem q1_130 : (Cond.fieldLink RX6 211 "MeterPool$Village" "shedLatest" "[I" : Cond) ∈ lw_w := tb1 _ (List.mem_of_getElem? (i := 130) rfl) rfl
theorem q3_54 : (Cond.methodLink RX6 198 yX2_sizeOf : Cond) ∈ lw_w := tb3 _ (List.mem_of_getElem? (i := 54) rfl) rfl
theorem q3_55 : (Cond.instanceMethod yX2_sizeOf : Cond) ∈ lw_w := tb3 _ (List.mem_of_getElem? (i := 55) rfl) rfl
theorem q3_56 : (Cond.selects RX2 yX2_sizeOf yX2_sizeOf : Cond) ∈ lw_w := tb3 _ (List.mem_of_getElem? (i := 56) rfl) rfl
theorem q3_57 : (Cond.code yX2_sizeOf cX2_sizeOf 4 (some .int) : Cond) ∈ lw_w := tb3 _ (List.mem_of_getElem? (i := 57) rfl) rfl
theorem q1_30 : (Cond.fieldLink RX2 42 "MeterPool$Houses" "size" "I" : Cond) ∈ lw_w := tb1 _ (List.mem_of_getElem? (i := 30) rfl) rfl
theorem q3_58 : (Cond.methodLink RX6 201 yX2_drawnFrom : Cond) ∈ lw_w := tb3 _ (List.mem_of_getElem? (i := 58) rfl) rfl
theorem q3_59 : (Cond.instanceMethod yX2_drawnFrom : Cond) ∈ lw_w := tb3 _ (List.mem_of_getElem? (i := 59) rfl) rfl
theorem q3_60 : (Cond.selects RX2 yX2_drawnFrom yX2_drawnFrom : Cond) ∈ lw_w := tb3 _ (List.mem_of_getElem? (i := 60) rfl) rfl
theorem q3_61 : (Cond.code yX2_drawnFrom cX2_drawnFrom 5 (some .int) : Cond) ∈ lw_w := tb3 _ (List.mem_of_getElem? (i := 61) rfl) rfl
theorem q2_207 : (Cond.methodLink RX2 61 yX2_canDraw : Cond) ∈ lw_w := tb2 _ (List.mem_of_getElem? (i := 207) rfl) rfl
theorem q3_62 : (Cond.methodLink RX6 204 yX2_sumFrom : Cond) ∈ lw_w := tb3 _ (List.mem_of_getElem? (i := 62) rfl) rfl
theorem q2_222 : (Cond.instanceMethod yX2_sumFrom : Cond) ∈ lw_w := tb2 _ (List.mem_of_getElem? (i := 222) rfl) rfl
theorem q2_223 : (Cond.selects RX2 yX2_sumFrom yX2_sumFrom : Cond) ∈ lw_w := tb2 _ (List.mem_of_getElem? (i := 223) rfl) rfl
theorem q2_224 : (Cond.code yX2_sumFrom cX2_sumFrom 5 (some .int) : Cond) ∈ lw_w := tb2 _ (List.mem_of_getElem? (i := 224) rfl) rfl
theorem q2_174 : (Cond.methodLink RL 18 yL_wants : Cond) ∈ lw_w := tb2 _ (List.mem_of_getElem? (i := 174) rfl) rfl
theorem q2_175 : (Cond.static yL_wants : Cond) ∈ lw_w := tb2 _ (List.mem_of_getElem? (i := 175) rfl) rfl
theorem q2_176 : (Cond.code yL_wants cL_wants 6 (some .int) : Cond) ∈ lw_w := tb2 _ (List.mem_of_getElem? (i := 176) rfl) rfl
theorem q3_63 : (Cond.methodLink RL 80 yX6_account : Cond) ∈ lw_w := tb3 _ (List.mem_of_getElem? (i := 63) rfl) rfl
theorem q3_64 : (Cond.instanceMethod yX6_account : Cond) ∈ lw_w := tb3 _ (List.mem_of_getElem? (i := 64) rfl) rfl
theorem q3_65 : (Cond.selects RX6 yX6_account yX6_account : Cond) ∈ lw_w := tb3 _ (List.mem_of_getElem? (i := 65) rfl) rfl
theorem q3_66 : (Cond.code yX6_account cX6_account 2 (some .int) : Cond) ∈ lw_w := tb3 _ (List.mem_of_getElem? (i := 66) rfl) rfl
theorem q1_126 : (Cond.fieldLink RX6 144 "MeterPool$Village" "accounts" "[I" : Cond) ∈ lw_w := tb1 _ (List.mem_of_getElem? (i := 126) rfl) rfl
theorem q3_67 : (Cond.methodLink RX6 214 yX0_chargeOfAll : Cond) ∈ lw_w := tb3 _ (List.mem_of_getElem? (i := 67) rfl) rfl
theorem q3_68 : (Cond.instanceMethod yX0_chargeOfAll : Cond) ∈ lw_w := tb3 _ (List.mem_of_getElem? (i := 68) rfl) rfl
theorem q3_69 : (Cond.selects RX0 yX0_chargeOfAll yX0_chargeOfAll : Cond) ∈ lw_w := tb3 _ (List.mem_of_getElem? (i := 69) rfl) rfl
theorem q3_70 : (Cond.code yX0_chargeOfAll cX0_chargeOfAll 1 (some .int) : Cond) ∈ lw_w := tb3 _ (List.mem_of_getElem? (i := 70) rfl) rfl
theorem q3_71 : (Cond.methodLink RL 83 yX6_setting : Cond) ∈ lw_w := tb3 _ (List.mem_of_getElem? (i := 71) rfl) rfl
theorem q3_72 : (Cond.instanceMethod yX6_setting : Cond) ∈ lw_w := tb3 _ (List.mem_of_getElem? (i := 72) rfl) rfl
theorem q3_73 : (Cond.selects RX6 yX6_setting yX6_setting : Cond) ∈ lw_w := tb3 _ (List.mem_of_getElem? (i := 73) rfl) rfl
theorem q3_74 : (Cond.code yX6_setting cX6_setting 2 (some .int) : Cond) ∈ lw_w := tb3 _ (List.mem_of_getElem? (i := 74) rfl) rfl
theorem q2_64 : (Cond.methodLink RX6 118 yX6_isSetting : Cond) ∈ lw_w := tb2 _ (List.mem_of_getElem? (i := 64) rfl) rfl
theorem q2_65 : (Cond.static yX6_isSetting : Cond) ∈ lw_w := tb2 _ (List.mem_of_getElem? (i := 65) rfl) rfl
theorem q2_66 : (Cond.code yX6_isSetting cX6_isSetting 1 (some .boolean) : Cond) ∈ lw_w := tb2 _ (List.mem_of_getElem? (i := 66) rfl) rfl
theorem q3_75 : (Cond.methodLink RL 86 yX6_count : Cond) ∈ lw_w := tb3 _ (List.mem_of_getElem? (i := 75) rfl) rfl
theorem q3_76 : (Cond.instanceMethod yX6_count : Cond) ∈ lw_w := tb3 _ (List.mem_of_getElem? (i := 76) rfl) rfl
theorem q3_77 : (Cond.selects RX6 yX6_count yX6_count : Cond) ∈ lw_w := tb3 _ (List.mem_of_getElem? (i := 77) rfl) rfl
theorem q3_78 : (Cond.code yX6_count cX6_count 2 (some .int) : Cond) ∈ lw_w := tb3 _ (List.mem_of_getElem? (i := 78) rfl) rfl
theorem q1_135 : (Cond.fieldLink RX6 185 "MeterPool$Village" "hour" "I" : Cond) ∈ lw_w := tb1 _ (List.mem_of_getElem? (i := 135) rfl) rfl
theorem q1_133 : (Cond.fieldLink RX6 172 "MeterPool$Village" "listSize" "I" : Cond) ∈ lw_w := tb1 _ (List.mem_of_getElem? (i := 133) rfl) rfl
theorem q1_137 : (Cond.fieldLink RX6 220 "MeterPool$Village" "turn" "I" : Cond) ∈ lw_w := tb1 _ (List.mem_of_getElem? (i := 137) rfl) rfl
theorem q1_171 : (Cond.fieldLink RX6 175 "MeterPool$History" "size" "I" : Cond) ∈ lw_w := tb1 _ (List.mem_of_getElem? (i := 171) rfl) rfl
theorem q3_79 : (Cond.methodLink RX6 223 yX2_overdrawn : Cond) ∈ lw_w := tb3 _ (List.mem_of_getElem? (i := 79) rfl) rfl
theorem q3_80 : (Cond.instanceMethod yX2_overdrawn : Cond) ∈ lw_w := tb3 _ (List.mem_of_getElem? (i := 80) rfl) rfl
theorem q3_81 : (Cond.selects RX2 yX2_overdrawn yX2_overdrawn : Cond) ∈ lw_w := tb3 _ (List.mem_of_getElem? (i := 81) rfl) rfl
theorem q3_82 : (Cond.code yX2_overdrawn cX2_overdrawn 3 (some .int) : Cond) ∈ lw_w := tb3 _ (List.mem_of_getElem? (i := 82) rfl) rfl
theorem q3_83 : (Cond.methodLink RL 89 yX6_met : Cond) ∈ lw_w := tb3 _ (List.mem_of_getElem? (i := 83) rfl) rfl
theorem q3_84 : (Cond.instanceMethod yX6_met : Cond) ∈ lw_w := tb3 _ (List.mem_of_getElem? (i := 84) rfl) rfl
theorem q3_85 : (Cond.selects RX6 yX6_met yX6_met : Cond) ∈ lw_w := tb3 _ (List.mem_of_getElem? (i := 85) rfl) rfl
theorem q3_86 : (Cond.code yX6_met cX6_met 2 (some .double) : Cond) ∈ lw_w := tb3 _ (List.mem_of_getElem? (i := 86) rfl) rfl
theorem q1_36 : (Cond.fieldLink RX6 241 "MeterPool$Houses" "demand" "[I" : Cond) ∈ lw_w := tb1 _ (List.mem_of_getElem? (i := 36) rfl) rfl
theorem q1_44 : (Cond.fieldLink RX6 248 "MeterPool$Houses" "got" "[I" : Cond) ∈ lw_w := tb1 _ (List.mem_of_getElem? (i := 44) rfl) rfl
theorem q3_87 : (Cond.methodLink RX6 244 yX2_sum : Cond) ∈ lw_w := tb3 _ (List.mem_of_getElem? (i := 87) rfl) rfl
theorem q2_218 : (Cond.instanceMethod yX2_sum : Cond) ∈ lw_w := tb2 _ (List.mem_of_getElem? (i := 218) rfl) rfl
theorem q2_219 : (Cond.selects RX2 yX2_sum yX2_sum : Cond) ∈ lw_w := tb2 _ (List.mem_of_getElem? (i := 219) rfl) rfl
theorem q2_220 : (Cond.code yX2_sum cX2_sum 4 (some .int) : Cond) ∈ lw_w := tb2 _ (List.mem_of_getElem? (i := 220) rfl) rfl
theorem q1_219 : (Cond.methodLink RL 102 yL_cell : Cond) ∈ lw_w := tb1 _ (List.mem_of_getElem? (i := 219) rfl) rfl
theorem q1_220 : (Cond.static yL_cell : Cond) ∈ lw_w := tb1 _ (List.mem_of_getElem? (i := 220) rfl) rfl
theorem q1_221 : (Cond.code yL_cell cL_cell 2 (some .int) : Cond) ∈ lw_w := tb1 _ (List.mem_of_getElem? (i := 221) rfl) rfl
theorem q1_222 : (Cond.constant RL 7 (1541459225) : Cond) ∈ lw_w := tb1 _ (List.mem_of_getElem? (i := 222) rfl) rfl
theorem q1_223 : (Cond.methodLink RL 29 yL_at : Cond) ∈ lw_w := tb1 _ (List.mem_of_getElem? (i := 223) rfl) rfl
theorem q1_224 : (Cond.static yL_at : Cond) ∈ lw_w := tb1 _ (List.mem_of_getElem? (i := 224) rfl) rfl
theorem q1_225 : (Cond.code yL_at cL_at 2 (some .int) : Cond) ∈ lw_w := tb1 _ (List.mem_of_getElem? (i := 225) rfl) rfl
theorem q1_229 : (Cond.methodLink RL 106 yL_house : Cond) ∈ lw_w := tb1 _ (List.mem_of_getElem? (i := 229) rfl) rfl
theorem q1_230 : (Cond.static yL_house : Cond) ∈ lw_w := tb1 _ (List.mem_of_getElem? (i := 230) rfl) rfl
theorem q1_231 : (Cond.code yL_house cL_house 8 (some .boolean) : Cond) ∈ lw_w := tb1 _ (List.mem_of_getElem? (i := 231) rfl) rfl
theorem q1_232 : (Cond.methodLink RL 33 yX6_addHouse : Cond) ∈ lw_w := tb1 _ (List.mem_of_getElem? (i := 232) rfl) rfl
theorem q1_233 : (Cond.instanceMethod yX6_addHouse : Cond) ∈ lw_w := tb1 _ (List.mem_of_getElem? (i := 233) rfl) rfl
theorem q1_234 : (Cond.selects RX6 yX6_addHouse yX6_addHouse : Cond) ∈ lw_w := tb1 _ (List.mem_of_getElem? (i := 234) rfl) rfl
theorem q1_235 : (Cond.code yX6_addHouse cX6_addHouse 3 (some .int) : Cond) ∈ lw_w := tb1 _ (List.mem_of_getElem? (i := 235) rfl) rfl
theorem q2_0 : (Cond.constant RX6 56 (-1000004) : Cond) ∈ lw_w := tb2 _ (List.mem_of_getElem? (i := 0) rfl) rfl
theorem q2_1 : (Cond.methodLink RX6 57 yX1_record : Cond) ∈ lw_w := tb2 _ (List.mem_of_getElem? (i := 1) rfl) rfl
theorem q2_2 : (Cond.instanceMethod yX1_record : Cond) ∈ lw_w := tb2 _ (List.mem_of_getElem? (i := 2) rfl) rfl
theorem q2_3 : (Cond.selects RX1 yX1_record yX1_record : Cond) ∈ lw_w := tb2 _ (List.mem_of_getElem? (i := 3) rfl) rfl
theorem q2_4 : (Cond.code yX1_record cX1_record 2 none : Cond) ∈ lw_w := tb2 _ (List.mem_of_getElem? (i := 4) rfl) rfl
theorem q1_170 : (Cond.fieldLink RX1 18 "MeterPool$History" "size" "I" : Cond) ∈ lw_w := tb1 _ (List.mem_of_getElem? (i := 170) rfl) rfl
theorem q2_5 : (Cond.methodLink RX1 22 yX1_dropOldest : Cond) ∈ lw_w := tb2 _ (List.mem_of_getElem? (i := 5) rfl) rfl
theorem q2_7 : (Cond.instanceMethod yX1_dropOldest : Cond) ∈ lw_w := tb2 _ (List.mem_of_getElem? (i := 7) rfl) rfl
theorem qs0 : (Cond.selects RX1 yX1_dropOldest yX1_dropOldest : Cond) ∈ lw_w := List.mem_filter.mpr ⟨List.mem_append_left _ (List.mem_of_getElem? (i := 0) rfl), rfl⟩
theorem q2_8 : (Cond.code yX1_dropOldest cX1_dropOldest 3 none : Cond) ∈ lw_w := tb2 _ (List.mem_of_getElem? (i := 8) rfl) rfl
theorem q2_9 : (Cond.methodLink RX1 25 yX5_copy : Cond) ∈ lw_w := tb2 _ (List.mem_of_getElem? (i := 9) rfl) rfl
theorem q2_10 : (Cond.instanceMethod yX5_copy : Cond) ∈ lw_w := tb2 _ (List.mem_of_getElem? (i := 10) rfl) rfl
theorem q2_11 : (Cond.selects RX5 yX5_copy yX5_copy : Cond) ∈ lw_w := tb2 _ (List.mem_of_getElem? (i := 11) rfl) rfl
theorem q2_12 : (Cond.code yX5_copy cX5_copy 2 none : Cond) ∈ lw_w := tb2 _ (List.mem_of_getElem? (i := 12) rfl) rfl
theorem q2_30 : (Cond.methodLink RX5 68 arraycopyName : Cond) ∈ lw_w := tb2 _ (List.mem_of_getElem? (i := 30) rfl) rfl
theorem q2_19 : (Cond.native arraycopyName : Cond) ∈ lw_w := tb2 _ (List.mem_of_getElem? (i := 19) rfl) rfl
theorem q2_18 : (Cond.static arraycopyName : Cond) ∈ lw_w := tb2 _ (List.mem_of_getElem? (i := 18) rfl) rfl
theorem q1_9 : (Cond.initialized "java/lang/System" : Cond) ∈ lw_w := tb1 _ (List.mem_of_getElem? (i := 9) rfl) rfl
theorem q2_13 : (Cond.methodLink RX5 58 yX2_copy : Cond) ∈ lw_w := tb2 _ (List.mem_of_getElem? (i := 13) rfl) rfl
theorem q2_14 : (Cond.instanceMethod yX2_copy : Cond) ∈ lw_w := tb2 _ (List.mem_of_getElem? (i := 14) rfl) rfl
theorem q2_15 : (Cond.selects RX2 yX2_copy yX2_copy : Cond) ∈ lw_w := tb2 _ (List.mem_of_getElem? (i := 15) rfl) rfl
theorem q2_16 : (Cond.code yX2_copy cX2_copy 2 none : Cond) ∈ lw_w := tb2 _ (List.mem_of_getElem? (i := 16) rfl) rfl
theorem q2_17 : (Cond.methodLink RX2 46 arraycopyName : Cond) ∈ lw_w := tb2 _ (List.mem_of_getElem? (i := 17) rfl) rfl
theorem q2_20 : (Cond.methodLink RX5 62 yX4_copy : Cond) ∈ lw_w := tb2 _ (List.mem_of_getElem? (i := 20) rfl) rfl
theorem q2_21 : (Cond.instanceMethod yX4_copy : Cond) ∈ lw_w := tb2 _ (List.mem_of_getElem? (i := 21) rfl) rfl
theorem q2_22 : (Cond.selects RX4 yX4_copy yX4_copy : Cond) ∈ lw_w := tb2 _ (List.mem_of_getElem? (i := 22) rfl) rfl
theorem q2_23 : (Cond.code yX4_copy cX4_copy 2 none : Cond) ∈ lw_w := tb2 _ (List.mem_of_getElem? (i := 23) rfl) rfl
theorem q2_24 : (Cond.methodLink RX4 25 arraycopyName : Cond) ∈ lw_w := tb2 _ (List.mem_of_getElem? (i := 24) rfl) rfl
theorem q2_25 : (Cond.methodLink RX5 65 yX0_copy : Cond) ∈ lw_w := tb2 _ (List.mem_of_getElem? (i := 25) rfl) rfl
theorem q2_26 : (Cond.instanceMethod yX0_copy : Cond) ∈ lw_w := tb2 _ (List.mem_of_getElem? (i := 26) rfl) rfl
theorem q2_27 : (Cond.selects RX0 yX0_copy yX0_copy : Cond) ∈ lw_w := tb2 _ (List.mem_of_getElem? (i := 27) rfl) rfl
theorem q2_28 : (Cond.code yX0_copy cX0_copy 2 none : Cond) ∈ lw_w := tb2 _ (List.mem_of_getElem? (i := 28) rfl) rfl
theorem q2_29 : (Cond.methodLink RX0 24 arraycopyName : Cond) ∈ lw_w := tb2 _ (List.mem_of_getElem? (i := 29) rfl) rfl
theorem q2_31 : (Cond.methodLink RX5 74 yX5_takeList : Cond) ∈ lw_w := tb2 _ (List.mem_of_getElem? (i := 31) rfl) rfl
theorem q2_32 : (Cond.instanceMethod yX5_takeList : Cond) ∈ lw_w := tb2 _ (List.mem_of_getElem? (i := 32) rfl) rfl
theorem q2_33 : (Cond.selects RX5 yX5_takeList yX5_takeList : Cond) ∈ lw_w := tb2 _ (List.mem_of_getElem? (i := 33) rfl) rfl
theorem q2_34 : (Cond.code yX5_takeList cX5_takeList 3 none : Cond) ∈ lw_w := tb2 _ (List.mem_of_getElem? (i := 34) rfl) rfl
theorem q2_35 : (Cond.methodLink RX6 61 yX2_add : Cond) ∈ lw_w := tb2 _ (List.mem_of_getElem? (i := 35) rfl) rfl
theorem q2_36 : (Cond.instanceMethod yX2_add : Cond) ∈ lw_w := tb2 _ (List.mem_of_getElem? (i := 36) rfl) rfl
theorem q2_37 : (Cond.selects RX2 yX2_add yX2_add : Cond) ∈ lw_w := tb2 _ (List.mem_of_getElem? (i := 37) rfl) rfl
theorem q2_38 : (Cond.code yX2_add cX2_add 4 (some .int) : Cond) ∈ lw_w := tb2 _ (List.mem_of_getElem? (i := 38) rfl) rfl
theorem q2_39 : (Cond.methodLink RL 109 yL_set : Cond) ∈ lw_w := tb2 _ (List.mem_of_getElem? (i := 39) rfl) rfl
theorem q2_40 : (Cond.static yL_set : Cond) ∈ lw_w := tb2 _ (List.mem_of_getElem? (i := 40) rfl) rfl
theorem q2_41 : (Cond.code yL_set cL_set 11 (some .boolean) : Cond) ∈ lw_w := tb2 _ (List.mem_of_getElem? (i := 41) rfl) rfl
theorem q2_42 : (Cond.methodLink RL 38 yX6_setHouse : Cond) ∈ lw_w := tb2 _ (List.mem_of_getElem? (i := 42) rfl) rfl
theorem q2_43 : (Cond.instanceMethod yX6_setHouse : Cond) ∈ lw_w := tb2 _ (List.mem_of_getElem? (i := 43) rfl) rfl
theorem q2_44 : (Cond.selects RX6 yX6_setHouse yX6_setHouse : Cond) ∈ lw_w := tb2 _ (List.mem_of_getElem? (i := 44) rfl) rfl
theorem q2_45 : (Cond.code yX6_setHouse cX6_setHouse 5 (some .int) : Cond) ∈ lw_w := tb2 _ (List.mem_of_getElem? (i := 45) rfl) rfl
theorem q2_50 : (Cond.fieldLink RX6 69 "MeterPool" "HOUSE_MOST" "[I" : Cond) ∈ lw_w := tb2 _ (List.mem_of_getElem? (i := 50) rfl) rfl
theorem q2_56 : (Cond.methodLink RX6 76 yX2_change : Cond) ∈ lw_w := tb2 _ (List.mem_of_getElem? (i := 56) rfl) rfl
theorem q2_57 : (Cond.instanceMethod yX2_change : Cond) ∈ lw_w := tb2 _ (List.mem_of_getElem? (i := 57) rfl) rfl
theorem q2_58 : (Cond.selects RX2 yX2_change yX2_change : Cond) ∈ lw_w := tb2 _ (List.mem_of_getElem? (i := 58) rfl) rfl
theorem q2_59 : (Cond.code yX2_change cX2_change 4 none : Cond) ∈ lw_w := tb2 _ (List.mem_of_getElem? (i := 59) rfl) rfl
theorem q2_60 : (Cond.methodLink RL 42 yX6_set : Cond) ∈ lw_w := tb2 _ (List.mem_of_getElem? (i := 60) rfl) rfl
theorem q2_61 : (Cond.instanceMethod yX6_set : Cond) ∈ lw_w := tb2 _ (List.mem_of_getElem? (i := 61) rfl) rfl
theorem q2_62 : (Cond.selects RX6 yX6_set yX6_set : Cond) ∈ lw_w := tb2 _ (List.mem_of_getElem? (i := 62) rfl) rfl
theorem q2_63 : (Cond.code yX6_set cX6_set 4 (some .int) : Cond) ∈ lw_w := tb2 _ (List.mem_of_getElem? (i := 63) rfl) rfl
theorem q2_67 : (Cond.fieldLink RX6 121 "MeterPool" "SETTING_MOST" "[I" : Cond) ∈ lw_w := tb2 _ (List.mem_of_getElem? (i := 67) rfl) rfl
theorem q2_69 : (Cond.methodLink RL 45 yX6_setBattery : Cond) ∈ lw_w := tb2 _ (List.mem_of_getElem? (i := 69) rfl) rfl
theorem q2_70 : (Cond.instanceMethod yX6_setBattery : Cond) ∈ lw_w := tb2 _ (List.mem_of_getElem? (i := 70) rfl) rfl
theorem q2_71 : (Cond.selects RX6 yX6_setBattery yX6_setBattery : Cond) ∈ lw_w := tb2 _ (List.mem_of_getElem? (i := 71) rfl) rfl
theorem q2_72 : (Cond.code yX6_setBattery cX6_setBattery 5 (some .int) : Cond) ∈ lw_w := tb2 _ (List.mem_of_getElem? (i := 72) rfl) rfl
theorem q2_76 : (Cond.fieldLink RX6 130 "MeterPool" "BATTERY_LEAST" "[I" : Cond) ∈ lw_w := tb2 _ (List.mem_of_getElem? (i := 76) rfl) rfl
theorem q2_78 : (Cond.fieldLink RX6 133 "MeterPool" "BATTERY_MOST" "[I" : Cond) ∈ lw_w := tb2 _ (List.mem_of_getElem? (i := 78) rfl) rfl
theorem q2_91 : (Cond.methodLink RX6 143 yX0_change : Cond) ∈ lw_w := tb2 _ (List.mem_of_getElem? (i := 91) rfl) rfl
theorem q2_92 : (Cond.instanceMethod yX0_change : Cond) ∈ lw_w := tb2 _ (List.mem_of_getElem? (i := 92) rfl) rfl
theorem q2_93 : (Cond.selects RX0 yX0_change yX0_change : Cond) ∈ lw_w := tb2 _ (List.mem_of_getElem? (i := 93) rfl) rfl
theorem q2_94 : (Cond.code yX0_change cX0_change 4 none : Cond) ∈ lw_w := tb2 _ (List.mem_of_getElem? (i := 94) rfl) rfl
theorem q2_95 : (Cond.methodLink RX6 147 yX0_discardExcess : Cond) ∈ lw_w := tb2 _ (List.mem_of_getElem? (i := 95) rfl) rfl
theorem q2_96 : (Cond.instanceMethod yX0_discardExcess : Cond) ∈ lw_w := tb2 _ (List.mem_of_getElem? (i := 96) rfl) rfl
theorem q2_97 : (Cond.selects RX0 yX0_discardExcess yX0_discardExcess : Cond) ∈ lw_w := tb2 _ (List.mem_of_getElem? (i := 97) rfl) rfl
theorem q2_98 : (Cond.code yX0_discardExcess cX0_discardExcess 3 (some .int) : Cond) ∈ lw_w := tb2 _ (List.mem_of_getElem? (i := 98) rfl) rfl
theorem q2_99 : (Cond.methodLink RX0 34 Lib.Math.max.name : Cond) ∈ lw_w := tb2 _ (List.mem_of_getElem? (i := 99) rfl) rfl
theorem q2_102 : (Cond.methodLink RL 111 yL_buy : Cond) ∈ lw_w := tb2 _ (List.mem_of_getElem? (i := 102) rfl) rfl
theorem q2_103 : (Cond.static yL_buy : Cond) ∈ lw_w := tb2 _ (List.mem_of_getElem? (i := 103) rfl) rfl
theorem q2_104 : (Cond.code yL_buy cL_buy 8 (some .boolean) : Cond) ∈ lw_w := tb2 _ (List.mem_of_getElem? (i := 104) rfl) rfl
theorem q2_105 : (Cond.methodLink RL 48 yL_token : Cond) ∈ lw_w := tb2 _ (List.mem_of_getElem? (i := 105) rfl) rfl
theorem q2_106 : (Cond.static yL_token : Cond) ∈ lw_w := tb2 _ (List.mem_of_getElem? (i := 106) rfl) rfl
theorem q2_107 : (Cond.code yL_token cL_token 10 none : Cond) ∈ lw_w := tb2 _ (List.mem_of_getElem? (i := 107) rfl) rfl
theorem q2_111 : (Cond.methodLink RL 25 yL_drop : Cond) ∈ lw_w := tb2 _ (List.mem_of_getElem? (i := 111) rfl) rfl
theorem q2_112 : (Cond.static yL_drop : Cond) ∈ lw_w := tb2 _ (List.mem_of_getElem? (i := 112) rfl) rfl
theorem q2_113 : (Cond.code yL_drop cL_drop 4 none : Cond) ∈ lw_w := tb2 _ (List.mem_of_getElem? (i := 113) rfl) rfl
theorem q2_114 : (Cond.methodLink RL 52 yX6_buy : Cond) ∈ lw_w := tb2 _ (List.mem_of_getElem? (i := 114) rfl) rfl
theorem q2_115 : (Cond.instanceMethod yX6_buy : Cond) ∈ lw_w := tb2 _ (List.mem_of_getElem? (i := 115) rfl) rfl
theorem q2_116 : (Cond.selects RX6 yX6_buy yX6_buy : Cond) ∈ lw_w := tb2 _ (List.mem_of_getElem? (i := 116) rfl) rfl
theorem q2_117 : (Cond.code yX6_buy cX6_buy 3 (some .int) : Cond) ∈ lw_w := tb2 _ (List.mem_of_getElem? (i := 117) rfl) rfl
theorem q2_118 : (Cond.methodLink RX6 97 yX5_takeToken : Cond) ∈ lw_w := tb2 _ (List.mem_of_getElem? (i := 118) rfl) rfl
theorem q2_119 : (Cond.instanceMethod yX5_takeToken : Cond) ∈ lw_w := tb2 _ (List.mem_of_getElem? (i := 119) rfl) rfl
theorem q2_120 : (Cond.selects RX5 yX5_takeToken yX5_takeToken : Cond) ∈ lw_w := tb2 _ (List.mem_of_getElem? (i := 120) rfl) rfl
theorem q2_121 : (Cond.code yX5_takeToken cX5_takeToken 5 none : Cond) ∈ lw_w := tb2 _ (List.mem_of_getElem? (i := 121) rfl) rfl
theorem q1_38 : (Cond.fieldLink RX5 84 "MeterPool$Houses" "debt" "[I" : Cond) ∈ lw_w := tb1 _ (List.mem_of_getElem? (i := 38) rfl) rfl
theorem q1_42 : (Cond.fieldLink RX5 104 "MeterPool$Houses" "credit" "[I" : Cond) ∈ lw_w := tb1 _ (List.mem_of_getElem? (i := 42) rfl) rfl
theorem q2_122 : (Cond.methodLink RX5 90 yX5_partForDebt : Cond) ∈ lw_w := tb2 _ (List.mem_of_getElem? (i := 122) rfl) rfl
theorem q2_123 : (Cond.instanceMethod yX5_partForDebt : Cond) ∈ lw_w := tb2 _ (List.mem_of_getElem? (i := 123) rfl) rfl
theorem q2_124 : (Cond.selects RX5 yX5_partForDebt yX5_partForDebt : Cond) ∈ lw_w := tb2 _ (List.mem_of_getElem? (i := 124) rfl) rfl
theorem q2_125 : (Cond.code yX5_partForDebt cX5_partForDebt 3 (some .int) : Cond) ∈ lw_w := tb2 _ (List.mem_of_getElem? (i := 125) rfl) rfl
theorem q2_126 : (Cond.methodLink RX5 87 Lib.Math.min.name : Cond) ∈ lw_w := tb2 _ (List.mem_of_getElem? (i := 126) rfl) rfl
theorem q2_127 : (Cond.methodLink RX5 97 yX5_partForLoans : Cond) ∈ lw_w := tb2 _ (List.mem_of_getElem? (i := 127) rfl) rfl
theorem q2_128 : (Cond.instanceMethod yX5_partForLoans : Cond) ∈ lw_w := tb2 _ (List.mem_of_getElem? (i := 128) rfl) rfl
theorem q2_129 : (Cond.selects RX5 yX5_partForLoans yX5_partForLoans : Cond) ∈ lw_w := tb2 _ (List.mem_of_getElem? (i := 129) rfl) rfl
theorem q2_130 : (Cond.code yX5_partForLoans cX5_partForLoans 4 (some .int) : Cond) ∈ lw_w := tb2 _ (List.mem_of_getElem? (i := 130) rfl) rfl
theorem q2_131 : (Cond.methodLink RX5 93 yX4_owedBy : Cond) ∈ lw_w := tb2 _ (List.mem_of_getElem? (i := 131) rfl) rfl
theorem q2_139 : (Cond.methodLink RX5 100 yX5_payLoans : Cond) ∈ lw_w := tb2 _ (List.mem_of_getElem? (i := 139) rfl) rfl
theorem q2_141 : (Cond.instanceMethod yX5_payLoans : Cond) ∈ lw_w := tb2 _ (List.mem_of_getElem? (i := 141) rfl) rfl
theorem qs3 : (Cond.selects RX5 yX5_payLoans yX5_payLoans : Cond) ∈ lw_w := List.mem_filter.mpr ⟨List.mem_append_left _ (List.mem_of_getElem? (i := 3) rfl), rfl⟩
theorem q2_142 : (Cond.code yX5_payLoans cX5_payLoans 6 none : Cond) ∈ lw_w := tb2 _ (List.mem_of_getElem? (i := 142) rfl) rfl
theorem q1_82 : (Cond.fieldLink RX5 107 "MeterPool$Loans" "size" "I" : Cond) ∈ lw_w := tb1 _ (List.mem_of_getElem? (i := 82) rfl) rfl
theorem q1_86 : (Cond.fieldLink RX5 110 "MeterPool$Loans" "borrower" "[I" : Cond) ∈ lw_w := tb1 _ (List.mem_of_getElem? (i := 86) rfl) rfl
theorem q1_88 : (Cond.fieldLink RX5 113 "MeterPool$Loans" "owed" "[I" : Cond) ∈ lw_w := tb1 _ (List.mem_of_getElem? (i := 88) rfl) rfl
theorem q1_84 : (Cond.fieldLink RX5 116 "MeterPool$Loans" "lender" "[I" : Cond) ∈ lw_w := tb1 _ (List.mem_of_getElem? (i := 84) rfl) rfl
theorem q2_143 : (Cond.methodLink RX5 119 yX4_removePaid : Cond) ∈ lw_w := tb2 _ (List.mem_of_getElem? (i := 143) rfl) rfl
theorem q2_144 : (Cond.instanceMethod yX4_removePaid : Cond) ∈ lw_w := tb2 _ (List.mem_of_getElem? (i := 144) rfl) rfl
theorem q2_145 : (Cond.selects RX4 yX4_removePaid yX4_removePaid : Cond) ∈ lw_w := tb2 _ (List.mem_of_getElem? (i := 145) rfl) rfl
theorem q2_146 : (Cond.code yX4_removePaid cX4_removePaid 2 none : Cond) ∈ lw_w := tb2 _ (List.mem_of_getElem? (i := 146) rfl) rfl
theorem q2_147 : (Cond.methodLink RX4 35 yX4_remove : Cond) ∈ lw_w := tb2 _ (List.mem_of_getElem? (i := 147) rfl) rfl
theorem q2_148 : (Cond.instanceMethod yX4_remove : Cond) ∈ lw_w := tb2 _ (List.mem_of_getElem? (i := 148) rfl) rfl
theorem q2_149 : (Cond.selects RX4 yX4_remove yX4_remove : Cond) ∈ lw_w := tb2 _ (List.mem_of_getElem? (i := 149) rfl) rfl
theorem q2_150 : (Cond.code yX4_remove cX4_remove 3 none : Cond) ∈ lw_w := tb2 _ (List.mem_of_getElem? (i := 150) rfl) rfl
theorem q2_151 : (Cond.methodLink RL 113 yL_lend : Cond) ∈ lw_w := tb2 _ (List.mem_of_getElem? (i := 151) rfl) rfl
theorem q2_152 : (Cond.static yL_lend : Cond) ∈ lw_w := tb2 _ (List.mem_of_getElem? (i := 152) rfl) rfl
theorem q2_153 : (Cond.code yL_lend cL_lend 10 (some .boolean) : Cond) ∈ lw_w := tb2 _ (List.mem_of_getElem? (i := 153) rfl) rfl
theorem q2_163 : (Cond.constant RL 58 (-1000002) : Cond) ∈ lw_w := tb2 _ (List.mem_of_getElem? (i := 163) rfl) rfl
theorem q2_164 : (Cond.constant RL 59 (-1000003) : Cond) ∈ lw_w := tb2 _ (List.mem_of_getElem? (i := 164) rfl) rfl
theorem q2_154 : (Cond.methodLink RL 55 yX6_lend : Cond) ∈ lw_w := tb2 _ (List.mem_of_getElem? (i := 154) rfl) rfl
theorem q2_155 : (Cond.instanceMethod yX6_lend : Cond) ∈ lw_w := tb2 _ (List.mem_of_getElem? (i := 155) rfl) rfl
theorem q2_156 : (Cond.selects RX6 yX6_lend yX6_lend : Cond) ∈ lw_w := tb2 _ (List.mem_of_getElem? (i := 156) rfl) rfl
theorem q2_157 : (Cond.code yX6_lend cX6_lend 4 (some .int) : Cond) ∈ lw_w := tb2 _ (List.mem_of_getElem? (i := 157) rfl) rfl
theorem q2_158 : (Cond.constant RX6 89 (-1000003) : Cond) ∈ lw_w := tb2 _ (List.mem_of_getElem? (i := 158) rfl) rfl
theorem q2_159 : (Cond.methodLink RX6 105 yX4_add : Cond) ∈ lw_w := tb2 _ (List.mem_of_getElem? (i := 159) rfl) rfl
theorem q2_160 : (Cond.instanceMethod yX4_add : Cond) ∈ lw_w := tb2 _ (List.mem_of_getElem? (i := 160) rfl) rfl
theorem q2_161 : (Cond.selects RX4 yX4_add yX4_add : Cond) ∈ lw_w := tb2 _ (List.mem_of_getElem? (i := 161) rfl) rfl
theorem q2_162 : (Cond.code yX4_add cX4_add 4 none : Cond) ∈ lw_w := tb2 _ (List.mem_of_getElem? (i := 162) rfl) rfl
theorem q2_165 : (Cond.methodLink RL 115 yL_run : Cond) ∈ lw_w := tb2 _ (List.mem_of_getElem? (i := 165) rfl) rfl
theorem q2_166 : (Cond.static yL_run : Cond) ∈ lw_w := tb2 _ (List.mem_of_getElem? (i := 166) rfl) rfl
theorem q2_167 : (Cond.code yL_run cL_run 10 (some .boolean) : Cond) ∈ lw_w := tb2 _ (List.mem_of_getElem? (i := 167) rfl) rfl
theorem q2_168 : (Cond.methodLink RL 60 yL_hour : Cond) ∈ lw_w := tb2 _ (List.mem_of_getElem? (i := 168) rfl) rfl
theorem q2_169 : (Cond.static yL_hour : Cond) ∈ lw_w := tb2 _ (List.mem_of_getElem? (i := 169) rfl) rfl
theorem q2_170 : (Cond.code yL_hour cL_hour 14 none : Cond) ∈ lw_w := tb2 _ (List.mem_of_getElem? (i := 170) rfl) rfl
theorem q2_180 : (Cond.methodLink RL 64 yX6_run : Cond) ∈ lw_w := tb2 _ (List.mem_of_getElem? (i := 180) rfl) rfl
theorem q2_181 : (Cond.instanceMethod yX6_run : Cond) ∈ lw_w := tb2 _ (List.mem_of_getElem? (i := 181) rfl) rfl
theorem q2_182 : (Cond.selects RX6 yX6_run yX6_run : Cond) ∈ lw_w := tb2 _ (List.mem_of_getElem? (i := 182) rfl) rfl
theorem q2_183 : (Cond.code yX6_run cX6_run 3 (some .int) : Cond) ∈ lw_w := tb2 _ (List.mem_of_getElem? (i := 183) rfl) rfl
theorem q2_184 : (Cond.methodLink RX6 151 yX5_passHours : Cond) ∈ lw_w := tb2 _ (List.mem_of_getElem? (i := 184) rfl) rfl
theorem q2_185 : (Cond.instanceMethod yX5_passHours : Cond) ∈ lw_w := tb2 _ (List.mem_of_getElem? (i := 185) rfl) rfl
theorem q2_186 : (Cond.selects RX5 yX5_passHours yX5_passHours : Cond) ∈ lw_w := tb2 _ (List.mem_of_getElem? (i := 186) rfl) rfl
theorem q2_187 : (Cond.code yX5_passHours cX5_passHours 3 none : Cond) ∈ lw_w := tb2 _ (List.mem_of_getElem? (i := 187) rfl) rfl
theorem q2_188 : (Cond.methodLink RX5 125 yX5_passHour : Cond) ∈ lw_w := tb2 _ (List.mem_of_getElem? (i := 188) rfl) rfl
theorem q2_190 : (Cond.instanceMethod yX5_passHour : Cond) ∈ lw_w := tb2 _ (List.mem_of_getElem? (i := 190) rfl) rfl
theorem qs4 : (Cond.selects RX5 yX5_passHour yX5_passHour : Cond) ∈ lw_w := List.mem_filter.mpr ⟨List.mem_append_left _ (List.mem_of_getElem? (i := 4) rfl), rfl⟩
theorem q2_191 : (Cond.code yX5_passHour cX5_passHour 4 none : Cond) ∈ lw_w := tb2 _ (List.mem_of_getElem? (i := 191) rfl) rfl
theorem q2_192 : (Cond.methodLink RX5 131 yX5_supplyOf : Cond) ∈ lw_w := tb2 _ (List.mem_of_getElem? (i := 192) rfl) rfl
theorem q2_193 : (Cond.instanceMethod yX5_supplyOf : Cond) ∈ lw_w := tb2 _ (List.mem_of_getElem? (i := 193) rfl) rfl
theorem q2_194 : (Cond.selects RX5 yX5_supplyOf yX5_supplyOf : Cond) ∈ lw_w := tb2 _ (List.mem_of_getElem? (i := 194) rfl) rfl
theorem q2_195 : (Cond.code yX5_supplyOf cX5_supplyOf 2 (some .int) : Cond) ∈ lw_w := tb2 _ (List.mem_of_getElem? (i := 195) rfl) rfl
theorem q2_196 : (Cond.methodLink RX5 78 yJ9_floorMod_7cf53 : Cond) ∈ lw_w := tb2 _ (List.mem_of_getElem? (i := 196) rfl) rfl
theorem q2_197 : (Cond.static yJ9_floorMod_7cf53 : Cond) ∈ lw_w := tb2 _ (List.mem_of_getElem? (i := 197) rfl) rfl
theorem q2_198 : (Cond.code yJ9_floorMod_7cf53 cJ9_floorMod_7cf53 3 (some .int) : Cond) ∈ lw_w := tb2 _ (List.mem_of_getElem? (i := 198) rfl) rfl
theorem q2_199 : (Cond.methodLink RX5 134 yX0_canGiveAll : Cond) ∈ lw_w := tb2 _ (List.mem_of_getElem? (i := 199) rfl) rfl
theorem q2_200 : (Cond.instanceMethod yX0_canGiveAll : Cond) ∈ lw_w := tb2 _ (List.mem_of_getElem? (i := 200) rfl) rfl
theorem q2_201 : (Cond.selects RX0 yX0_canGiveAll yX0_canGiveAll : Cond) ∈ lw_w := tb2 _ (List.mem_of_getElem? (i := 201) rfl) rfl
theorem q2_202 : (Cond.code yX0_canGiveAll cX0_canGiveAll 1 (some .int) : Cond) ∈ lw_w := tb2 _ (List.mem_of_getElem? (i := 202) rfl) rfl
theorem q2_203 : (Cond.methodLink RX5 138 yX2_wantAll : Cond) ∈ lw_w := tb2 _ (List.mem_of_getElem? (i := 203) rfl) rfl
theorem q2_204 : (Cond.instanceMethod yX2_wantAll : Cond) ∈ lw_w := tb2 _ (List.mem_of_getElem? (i := 204) rfl) rfl
theorem q2_205 : (Cond.selects RX2 yX2_wantAll yX2_wantAll : Cond) ∈ lw_w := tb2 _ (List.mem_of_getElem? (i := 205) rfl) rfl
theorem q2_206 : (Cond.code yX2_wantAll cX2_wantAll 3 none : Cond) ∈ lw_w := tb2 _ (List.mem_of_getElem? (i := 206) rfl) rfl
theorem q2_213 : (Cond.methodLink RX5 142 yX5_shed : Cond) ∈ lw_w := tb2 _ (List.mem_of_getElem? (i := 213) rfl) rfl
theorem q2_215 : (Cond.instanceMethod yX5_shed : Cond) ∈ lw_w := tb2 _ (List.mem_of_getElem? (i := 215) rfl) rfl
theorem qs5 : (Cond.selects RX5 yX5_shed yX5_shed : Cond) ∈ lw_w := List.mem_filter.mpr ⟨List.mem_append_left _ (List.mem_of_getElem? (i := 5) rfl), rfl⟩
theorem q2_216 : (Cond.code yX5_shed cX5_shed 3 none : Cond) ∈ lw_w := tb2 _ (List.mem_of_getElem? (i := 216) rfl) rfl
theorem q1_49 : (Cond.fieldLink RX5 154 "MeterPool$Houses" "wants" "[I" : Cond) ∈ lw_w := tb1 _ (List.mem_of_getElem? (i := 49) rfl) rfl
theorem q2_217 : (Cond.methodLink RX5 157 yX2_sum : Cond) ∈ lw_w := tb2 _ (List.mem_of_getElem? (i := 217) rfl) rfl
theorem q2_221 : (Cond.methodLink RX5 161 yX2_sumFrom : Cond) ∈ lw_w := tb2 _ (List.mem_of_getElem? (i := 221) rfl) rfl
theorem q2_225 : (Cond.methodLink RX5 165 yX2_wantNothing : Cond) ∈ lw_w := tb2 _ (List.mem_of_getElem? (i := 225) rfl) rfl
theorem q2_226 : (Cond.instanceMethod yX2_wantNothing : Cond) ∈ lw_w := tb2 _ (List.mem_of_getElem? (i := 226) rfl) rfl
theorem q2_227 : (Cond.selects RX2 yX2_wantNothing yX2_wantNothing : Cond) ∈ lw_w := tb2 _ (List.mem_of_getElem? (i := 227) rfl) rfl
theorem q2_228 : (Cond.code yX2_wantNothing cX2_wantNothing 3 none : Cond) ∈ lw_w := tb2 _ (List.mem_of_getElem? (i := 228) rfl) rfl
theorem q2_229 : (Cond.methodLink RX5 145 yX5_serve : Cond) ∈ lw_w := tb2 _ (List.mem_of_getElem? (i := 229) rfl) rfl
theorem q2_231 : (Cond.instanceMethod yX5_serve : Cond) ∈ lw_w := tb2 _ (List.mem_of_getElem? (i := 231) rfl) rfl
theorem qs6 : (Cond.selects RX5 yX5_serve yX5_serve : Cond) ∈ lw_w := List.mem_filter.mpr ⟨List.mem_append_left _ (List.mem_of_getElem? (i := 6) rfl), rfl⟩
theorem q2_232 : (Cond.code yX5_serve cX5_serve 6 (some .int) : Cond) ∈ lw_w := tb2 _ (List.mem_of_getElem? (i := 232) rfl) rfl
theorem q1_32 : (Cond.fieldLink RX5 168 "MeterPool$Houses" "size" "I" : Cond) ∈ lw_w := tb1 _ (List.mem_of_getElem? (i := 32) rfl) rfl
theorem q1_34 : (Cond.fieldLink RX5 169 "MeterPool$Houses" "feeder" "[I" : Cond) ∈ lw_w := tb1 _ (List.mem_of_getElem? (i := 34) rfl) rfl
theorem q2_233 : (Cond.methodLink RX5 172 yX5_partOf : Cond) ∈ lw_w := tb2 _ (List.mem_of_getElem? (i := 233) rfl) rfl
theorem q2_235 : (Cond.instanceMethod yX5_partOf : Cond) ∈ lw_w := tb2 _ (List.mem_of_getElem? (i := 235) rfl) rfl
theorem qs7 : (Cond.selects RX5 yX5_partOf yX5_partOf : Cond) ∈ lw_w := List.mem_filter.mpr ⟨List.mem_append_left _ (List.mem_of_getElem? (i := 7) rfl), rfl⟩
theorem q2_236 : (Cond.code yX5_partOf cX5_partOf 3 (some .int) : Cond) ∈ lw_w := tb2 _ (List.mem_of_getElem? (i := 236) rfl) rfl
theorem q2_237 : (Cond.methodLink RX5 175 yX2_receive : Cond) ∈ lw_w := tb2 _ (List.mem_of_getElem? (i := 237) rfl) rfl
theorem q2_238 : (Cond.instanceMethod yX2_receive : Cond) ∈ lw_w := tb2 _ (List.mem_of_getElem? (i := 238) rfl) rfl
theorem q2_239 : (Cond.selects RX2 yX2_receive yX2_receive : Cond) ∈ lw_w := tb2 _ (List.mem_of_getElem? (i := 239) rfl) rfl
theorem q3_0 : (Cond.code yX2_receive cX2_receive 4 none : Cond) ∈ lw_w := tb3 _ (List.mem_of_getElem? (i := 0) rfl) rfl
theorem q3_1 : (Cond.methodLink RX2 64 yX2_reasonOf : Cond) ∈ lw_w := tb3 _ (List.mem_of_getElem? (i := 1) rfl) rfl
theorem q3_3 : (Cond.instanceMethod yX2_reasonOf : Cond) ∈ lw_w := tb3 _ (List.mem_of_getElem? (i := 3) rfl) rfl
theorem qs8 : (Cond.selects RX2 yX2_reasonOf yX2_reasonOf : Cond) ∈ lw_w := List.mem_filter.mpr ⟨List.mem_append_left _ (List.mem_of_getElem? (i := 8) rfl), rfl⟩
theorem q3_4 : (Cond.code yX2_reasonOf cX2_reasonOf 3 (some .int) : Cond) ∈ lw_w := tb3 _ (List.mem_of_getElem? (i := 4) rfl) rfl
theorem q3_5 : (Cond.methodLink RX5 148 yX0_give : Cond) ∈ lw_w := tb3 _ (List.mem_of_getElem? (i := 5) rfl) rfl
theorem q3_6 : (Cond.instanceMethod yX0_give : Cond) ∈ lw_w := tb3 _ (List.mem_of_getElem? (i := 6) rfl) rfl
theorem q3_7 : (Cond.selects RX0 yX0_give yX0_give : Cond) ∈ lw_w := tb3 _ (List.mem_of_getElem? (i := 7) rfl) rfl
theorem q3_8 : (Cond.code yX0_give cX0_give 5 none : Cond) ∈ lw_w := tb3 _ (List.mem_of_getElem? (i := 8) rfl) rfl
theorem q3_9 : (Cond.methodLink RX5 151 yX5_store : Cond) ∈ lw_w := tb3 _ (List.mem_of_getElem? (i := 9) rfl) rfl
theorem q3_11 : (Cond.instanceMethod yX5_store : Cond) ∈ lw_w := tb3 _ (List.mem_of_getElem? (i := 11) rfl) rfl
theorem qs9 : (Cond.selects RX5 yX5_store yX5_store : Cond) ∈ lw_w := List.mem_filter.mpr ⟨List.mem_append_left _ (List.mem_of_getElem? (i := 9) rfl), rfl⟩
theorem q3_12 : (Cond.code yX5_store cX5_store 5 none : Cond) ∈ lw_w := tb3 _ (List.mem_of_getElem? (i := 12) rfl) rfl
theorem q3_13 : (Cond.methodLink RX5 179 yX0_canTake : Cond) ∈ lw_w := tb3 _ (List.mem_of_getElem? (i := 13) rfl) rfl
theorem q3_14 : (Cond.instanceMethod yX0_canTake : Cond) ∈ lw_w := tb3 _ (List.mem_of_getElem? (i := 14) rfl) rfl
theorem q3_15 : (Cond.selects RX0 yX0_canTake yX0_canTake : Cond) ∈ lw_w := tb3 _ (List.mem_of_getElem? (i := 15) rfl) rfl
theorem q3_16 : (Cond.code yX0_canTake cX0_canTake 6 (some .int) : Cond) ∈ lw_w := tb3 _ (List.mem_of_getElem? (i := 16) rfl) rfl
theorem q3_17 : (Cond.methodLink RX5 182 yX0_takeIn : Cond) ∈ lw_w := tb3 _ (List.mem_of_getElem? (i := 17) rfl) rfl
theorem q3_18 : (Cond.instanceMethod yX0_takeIn : Cond) ∈ lw_w := tb3 _ (List.mem_of_getElem? (i := 18) rfl) rfl
theorem q3_19 : (Cond.selects RX0 yX0_takeIn yX0_takeIn : Cond) ∈ lw_w := tb3 _ (List.mem_of_getElem? (i := 19) rfl) rfl
theorem q3_20 : (Cond.code yX0_takeIn cX0_takeIn 4 (some .int) : Cond) ∈ lw_w := tb3 _ (List.mem_of_getElem? (i := 20) rfl) rfl
theorem n1_26 : (Jvm.Cond.methodLinkNest "MeterPool$Village" (11 : Nat) ({ cls := "MeterPool$Houses", name := "<init>", desc := "()V" } : Jvm.MethodName) "MeterPool" : Cond) ∈ lw_tbl := List.mem_append_right _ (List.mem_append_left _ (List.mem_of_getElem? (i := 26) rfl))
theorem n1_72 : (Jvm.Cond.superclass "MeterPool$Houses" "java/lang/Object" : Cond) ∈ lw_tbl := List.mem_append_right _ (List.mem_append_left _ (List.mem_of_getElem? (i := 72) rfl))
theorem n1_76 : (Jvm.Cond.methodLinkNest "MeterPool$Village" (20 : Nat) ({ cls := "MeterPool$Loans", name := "<init>", desc := "()V" } : Jvm.MethodName) "MeterPool" : Cond) ∈ lw_tbl := List.mem_append_right _ (List.mem_append_left _ (List.mem_of_getElem? (i := 76) rfl))
theorem n1_97 : (Jvm.Cond.superclass "MeterPool$Loans" "java/lang/Object" : Cond) ∈ lw_tbl := List.mem_append_right _ (List.mem_append_left _ (List.mem_of_getElem? (i := 97) rfl))
theorem n1_116 : (Jvm.Cond.superclass "MeterPool$Batteries" "java/lang/Object" : Cond) ∈ lw_tbl := List.mem_append_right _ (List.mem_append_left _ (List.mem_of_getElem? (i := 116) rfl))
theorem n1_160 : (Jvm.Cond.superclass "MeterPool$Village" "java/lang/Object" : Cond) ∈ lw_tbl := List.mem_append_right _ (List.mem_append_left _ (List.mem_of_getElem? (i := 160) rfl))
theorem n1_168 : (Jvm.Cond.arrayOver (Jvm.ClassFile.FieldType.object "MeterPool$Village") : Cond) ∈ lw_tbl := List.mem_append_right _ (List.mem_append_left _ (List.mem_of_getElem? (i := 168) rfl))
theorem n1_177 : (Jvm.Cond.superclass "MeterPool$History" "java/lang/Object" : Cond) ∈ lw_tbl := List.mem_append_right _ (List.mem_append_left _ (List.mem_of_getElem? (i := 177) rfl))
theorem n1_180 : (Jvm.Cond.methodLinkNest "MeterPool" (36 : Nat) ({ cls := "MeterPool$ListText", name := "<init>", desc := "()V" } : Jvm.MethodName) "MeterPool" : Cond) ∈ lw_tbl := List.mem_append_right _ (List.mem_append_left _ (List.mem_of_getElem? (i := 180) rfl))
theorem n1_198 : (Jvm.Cond.superclass "MeterPool$ListText" "java/lang/Object" : Cond) ∈ lw_tbl := List.mem_append_right _ (List.mem_append_left _ (List.mem_of_getElem? (i := 198) rfl))
theorem n1_218 : (Jvm.Cond.superclass "MeterPool" "java/lang/Object" : Cond) ∈ lw_tbl := List.mem_append_right _ (List.mem_append_left _ (List.mem_of_getElem? (i := 218) rfl))
theorem n2_51 : (Jvm.Cond.laysStatic "MeterPool" "HOUSE_MOST" "[I" : Cond) ∈ lw_tbl := List.mem_append_right _ (List.mem_append_right _ (List.mem_append_left _ (List.mem_of_getElem? (i := 51) rfl)))
theorem n2_68 : (Jvm.Cond.laysStatic "MeterPool" "SETTING_MOST" "[I" : Cond) ∈ lw_tbl := List.mem_append_right _ (List.mem_append_right _ (List.mem_append_left _ (List.mem_of_getElem? (i := 68) rfl)))
theorem n2_77 : (Jvm.Cond.laysStatic "MeterPool" "BATTERY_LEAST" "[I" : Cond) ∈ lw_tbl := List.mem_append_right _ (List.mem_append_right _ (List.mem_append_left _ (List.mem_of_getElem? (i := 77) rfl)))
theorem n2_79 : (Jvm.Cond.laysStatic "MeterPool" "BATTERY_MOST" "[I" : Cond) ∈ lw_tbl := List.mem_append_right _ (List.mem_append_right _ (List.mem_append_left _ (List.mem_of_getElem? (i := 79) rfl)))
set_option maxRecDepth 100000 in
theorem inX0_0 : ∀ w ∈ wsX00, w ∈ lw_tbl ∧ goodWord w = true := by decide +kernel
theorem inX0 : ∀ w ∈ wsX00, w ∈ lw_w := fun w h => List.mem_filter.mpr (inX0_0 w h)
set_option maxRecDepth 100000 in
theorem inX1_0 : ∀ w ∈ wsX10, w ∈ lw_tbl ∧ goodWord w = true := by decide +kernel
theorem inX1 : ∀ w ∈ wsX10, w ∈ lw_w := fun w h => List.mem_filter.mpr (inX1_0 w h)
set_option maxRecDepth 100000 in
theorem inX2_0 : ∀ w ∈ wsX20, w ∈ lw_tbl ∧ goodWord w = true := by decide +kernel
theorem inX2 : ∀ w ∈ wsX20, w ∈ lw_w := fun w h => List.mem_filter.mpr (inX2_0 w h)
set_option maxRecDepth 100000 in
theorem inX3_0 : ∀ w ∈ wsX30, w ∈ lw_tbl ∧ goodWord w = true := by decide +kernel
theorem inX3 : ∀ w ∈ wsX30, w ∈ lw_w := fun w h => List.mem_filter.mpr (inX3_0 w h)
set_option maxRecDepth 100000 in
theorem inX4_0 : ∀ w ∈ wsX40, w ∈ lw_tbl ∧ goodWord w = true := by decide +kernel
theorem inX4 : ∀ w ∈ wsX40, w ∈ lw_w := fun w h => List.mem_filter.mpr (inX4_0 w h)
set_option maxRecDepth 100000 in
theorem inX5_0 : ∀ w ∈ wsX50, w ∈ lw_tbl ∧ goodWord w = true := by decide +kernel
theorem inX5 : ∀ w ∈ wsX50, w ∈ lw_w := fun w h => List.mem_filter.mpr (inX5_0 w h)
set_option maxRecDepth 100000 in
theorem inX6_0 : ∀ w ∈ wsX60, w ∈ lw_tbl ∧ goodWord w = true := by decide +kernel
theorem inX6 : ∀ w ∈ wsX60, w ∈ lw_w := fun w h => List.mem_filter.mpr (inX6_0 w h)
set_option maxRecDepth 100000 in
theorem inX7_0 : ∀ w ∈ wsX70, w ∈ lw_tbl ∧ goodWord w = true := by decide +kernel
theorem inX7 : ∀ w ∈ wsX70, w ∈ lw_w := fun w h => List.mem_filter.mpr (inX7_0 w h)
