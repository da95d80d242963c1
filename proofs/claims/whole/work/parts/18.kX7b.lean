abbrev rmX7_type : Room := { frames := 1, cells := 0, slots := 0, locals := 22 }
theorem cw_X7_type : CWv RX7 yX7_type cX7_type 2 (some .int) 1 := ⟨q4_226, q4_227, q1_8, q4_228, ⟨rfl, by decide +kernel, by decide +kernel, by decide +kernel⟩⟩
set_option maxHeartbeats 4000000 in
set_option maxRecDepth 100000 in
theorem k_X7_type {X : JX RS} {ad : Nat → Nat} (h : OK X RX7 cX7_type rmX7_type) (hM : IsRef X.cI X.B ad) (hnL : X.nL = 2) {res : Int32 × RS} {S : RS} {p1 : Int32} (hE : EXi X cX7_type res.1 res.2) (hF : f_X7_type S p1 = some res) : J X 0 [(0, .ref (ad 7)), (1, .int p1)] [] S := by
  rw [f_X7_type] at hF
  refine j_iload_n h 1 rfl rfl dX7_type_0 ?_
  refine j_bipush h (v := 33) (by decide) dX7_type_1 ?_
  refine j_bipush h (v := 126) (by decide) dX7_type_3 ?_
  obtain ⟨r_1, hr_1, hF⟩ := bind_row hF
  refine j_callSz h (st := []) (S' := S) (c_X7_within X.l X.D X.cI X.cZ X.cV (B := X.B) S p1 (33 : Int32) (126 : Int32) hr_1) rfl rfl q4_77 cw_X7_within rfl ⟨rfl, rfl, Nat.le_of_ble_eq_true rfl, Nat.le_of_ble_eq_true rfl⟩ _ rfl (Nat.le_of_ble_eq_true rfl) dX7_type_5 (fun hz_r_1 => ?_)
  refine j_if_ne h 14 (by decide) dX7_type_8 hF (fun hF => ?_) (fun hF => ?_)
  · refine j_ldc h (v := -1000002) q4_80 dX7_type_11 ?_
    cases hF
    exact hE _ _ dX7_type_13
  · refine j_aload_n h 0 rfl rfl dX7_type_14 ?_
    refine j_get h hM.2.1.o inX7 rfl 6 (by decide) rfl q4_30 rfl dX7_type_15 ?_
    refine j_bipush h (v := 60) (by decide) dX7_type_18 ?_
    refine j_icmp_ne h 26 (by decide) dX7_type_20 hF (fun hF => ?_) (fun hF => ?_)
    · refine j_ldc h (v := -1000004) q4_81 dX7_type_23 ?_
      cases hF
      exact hE _ _ dX7_type_25
    · refine j_aload_n h 0 rfl rfl dX7_type_26 ?_
      refine j_get h hM.2.1.o inX7 rfl 7 (by decide) rfl q4_31 rfl dX7_type_27 ?_
      refine j_aload_n h 0 rfl rfl dX7_type_30 ?_
      refine j_get h hM.2.1.o inX7 rfl 6 (by decide) rfl q4_30 rfl dX7_type_31 ?_
      refine j_iload_n h 1 rfl rfl dX7_type_34 ?_
      obtain ⟨hb_2, hF⟩ := bnd_row hF
      refine ja_iast h (get := fun S => S.1) (put := setR) (hM.1 4 (by decide)) hb_2 dX7_type_35 ?_
      refine j_letS hF (fun S_3 hF => ?_)
      refine j_aload_n h 0 rfl rfl dX7_type_36 ?_
      refine j_dup h rfl dX7_type_37 ?_
      refine j_get h hM.2.1.o inX7 rfl 6 (by decide) rfl q4_30 rfl dX7_type_38 ?_
      refine j_iconst h (v := 1) (by decide) dX7_type_41 ?_
      refine j_iadd h dX7_type_42 ?_
      refine j_put h (hM.2.2.2.1) inX7 tyX7_ok nmX7 rfl (by decide) rfl q4_30 (Nat.le_of_ble_eq_true rfl) dX7_type_43 ?_
      refine j_letS hF (fun S_4 hF => ?_)
      refine j_aload_n h 0 rfl rfl dX7_type_46 ?_
      refine j_get h hM.2.1.o inX7 rfl 6 (by decide) rfl q4_30 rfl dX7_type_47 ?_
      cases hF
      exact hE _ _ dX7_type_50
theorem c_X7_type (l : Launch) (D : va_G) (cI cZ cV : ClassId) {B : RS → va_W} {ad : Nat → Nat} (hM : IsRef cI B ad) (S : RS) (p1 : Int32) {r : Int32 × RS} (hF : f_X7_type S p1 = some r) : CTi l D (jtys cI cZ cV) yX7_type cX7_type 2 (some .int) rmX7_type B [.ref (ad 7), .int p1] S r.1 r.2 := by
  refine CTi.of [(0, .ref (ad 7)), (1, .int p1)] rfl (Nat.le_of_ble_eq_true rfl) (by decide) ⟨rfl, rfl⟩ (fun X e1 e2 e3 e4 e5 e6 e7 h hE => ?_)
  subst e1; subst e2; subst e3; subst e4; subst e5; subst e6
  exact k_X7_type h hM e7 hE hF
abbrev rmX7_clear : Room := { frames := 0, cells := 0, slots := 0, locals := 0 }
theorem cw_X7_clear : CWv RX7 yX7_clear cX7_clear 2 (some .int) 0 := ⟨q4_230, q4_231, q1_8, q4_232, ⟨rfl, by decide +kernel, by decide +kernel, by decide +kernel⟩⟩
set_option maxHeartbeats 4000000 in
set_option maxRecDepth 100000 in
theorem k_X7_clear {X : JX RS} {ad : Nat → Nat} (h : OK X RX7 cX7_clear rmX7_clear) (hM : IsRef X.cI X.B ad) (hnL : X.nL = 2) {res : Int32 × RS} {S : RS} (hE : EXi X cX7_clear res.1 res.2) (hF : f_X7_clear S = some res) : J X 0 [(0, .ref (ad 7))] [] S := by
  rw [f_X7_clear] at hF
  refine j_aload_n h 0 rfl rfl dX7_clear_0 ?_
  refine j_get h hM.2.1.o inX7 rfl 6 (by decide) rfl q4_30 rfl dX7_clear_1 ?_
  refine j_let hF (fun x_1 hF => ?_)
  refine j_istore_n h hnL [(1, .int x_1), (0, .ref (ad 7))] rfl (by decide) rfl dX7_clear_4 ?_
  refine j_aload_n h 1 rfl rfl dX7_clear_5 ?_
  refine j_iconst h (v := 0) (by decide) dX7_clear_6 ?_
  refine j_put h (hM.2.2.2.1) inX7 tyX7_ok nmX7 rfl (by decide) rfl q4_30 (Nat.le_of_ble_eq_true rfl) dX7_clear_7 ?_
  refine j_letS hF (fun S_2 hF => ?_)
  refine j_iload_n h 0 rfl rfl dX7_clear_10 ?_
  cases hF
  exact hE _ _ dX7_clear_11
theorem c_X7_clear (l : Launch) (D : va_G) (cI cZ cV : ClassId) {B : RS → va_W} {ad : Nat → Nat} (hM : IsRef cI B ad) (S : RS) {r : Int32 × RS} (hF : f_X7_clear S = some r) : CTi l D (jtys cI cZ cV) yX7_clear cX7_clear 2 (some .int) rmX7_clear B [.ref (ad 7)] S r.1 r.2 := by
  refine CTi.of [(0, .ref (ad 7))] rfl (Nat.le_of_ble_eq_true rfl) (by decide) ⟨rfl, rfl⟩ (fun X e1 e2 e3 e4 e5 e6 e7 h hE => ?_)
  subst e1; subst e2; subst e3; subst e4; subst e5; subst e6
  exact k_X7_clear h hM e7 hE hF
abbrev rmX7_beginItem : Room := { frames := 0, cells := 0, slots := 0, locals := 0 }
theorem cw_X7_beginItem : CWv RX7 yX7_beginItem cX7_beginItem 1 none 0 := ⟨q5_3, qs53, q1_8, q5_4, ⟨rfl, by decide +kernel, by decide +kernel, by decide +kernel⟩⟩
set_option maxHeartbeats 4000000 in
set_option maxRecDepth 100000 in
theorem k_X7_beginItem {X : JX RS} {ad : Nat → Nat} (h : OK X RX7 cX7_beginItem rmX7_beginItem) (hM : IsRef X.cI X.B ad) (hnL : X.nL = 1) {res : RS} {S : RS} (hE : EXv X cX7_beginItem res) (hF : f_X7_beginItem S = some res) : J X 0 [(0, .ref (ad 7))] [] S := by
  rw [f_X7_beginItem] at hF
  refine j_aload_n h 0 rfl rfl dX7_beginItem_0 ?_
  refine j_iconst h (v := 0) (by decide) dX7_beginItem_1 ?_
  refine j_put h (hM.2.2.2.2.2.1) inX7 tyX7_ok nmX7 rfl (by decide) rfl q4_35 (Nat.le_of_ble_eq_true rfl) dX7_beginItem_2 ?_
  refine j_letS hF (fun S_1 hF => ?_)
  refine j_aload_n h 0 rfl rfl dX7_beginItem_5 ?_
  refine j_iconst h (v := 0) (by decide) dX7_beginItem_6 ?_
  refine j_put h (hM.2.2.2.2.2.2.1) inX7 tyX7_ok nmX7 rfl (by decide) rfl q4_36 (Nat.le_of_ble_eq_true rfl) dX7_beginItem_7 ?_
  refine j_letS hF (fun S_2 hF => ?_)
  refine j_aload_n h 0 rfl rfl dX7_beginItem_10 ?_
  refine j_iconst h (v := 1) (by decide) dX7_beginItem_11 ?_
  refine j_put h (hM.2.2.2.2.2.2.2.1) inX7 tyX7_ok nmX7 rfl (by decide) rfl q4_37 (Nat.le_of_ble_eq_true rfl) dX7_beginItem_12 ?_
  refine j_letS hF (fun S_3 hF => ?_)
  refine j_aload_n h 0 rfl rfl dX7_beginItem_15 ?_
  refine j_iconst h (v := -1) (by decide) dX7_beginItem_16 ?_
  refine j_put h (hM.2.2.2.2.2.2.2.2.1) inX7 tyX7_ok nmX7 rfl (by decide) rfl q4_38 (Nat.le_of_ble_eq_true rfl) dX7_beginItem_17 ?_
  refine j_letS hF (fun S_4 hF => ?_)
  cases hF
  exact hE _ _ dX7_beginItem_20
theorem c_X7_beginItem (l : Launch) (D : va_G) (cI cZ cV : ClassId) {B : RS → va_W} {ad : Nat → Nat} (hM : IsRef cI B ad) (S : RS) {r : RS} (hF : f_X7_beginItem S = some r) : CTv l D (jtys cI cZ cV) yX7_beginItem cX7_beginItem 1 none rmX7_beginItem B [.ref (ad 7)] S r := by
  refine CTv.of [(0, .ref (ad 7))] rfl (Nat.le_of_ble_eq_true rfl) (by decide) ⟨rfl, rfl⟩ (fun X e1 e2 e3 e4 e5 e6 e7 h hE => ?_)
  subst e1; subst e2; subst e3; subst e4; subst e5; subst e6
  exact k_X7_beginItem h hM e7 hE hF
abbrev rmX7_takesDigit : Room := { frames := 0, cells := 0, slots := 0, locals := 0 }
theorem cw_X7_takesDigit : CWv RX7 yX7_takesDigit cX7_takesDigit 3 (some .boolean) 1 := ⟨q5_19, qs57, q1_8, q5_20, ⟨rfl, by decide +kernel, by decide +kernel, by decide +kernel⟩⟩
set_option maxHeartbeats 4000000 in
set_option maxRecDepth 100000 in
theorem k_X7_takesDigit_34 {X : JX RS} {ad : Nat → Nat} (h : OK X RX7 cX7_takesDigit rmX7_takesDigit) (hM : IsRef X.cI X.B ad) (hnL : X.nL = 3) {res : Int32 × RS} {S : RS} {x1 : Int32} {s0 : Int32} (hE : EXz X cX7_takesDigit res.1 res.2) (hF : f_X7_takesDigit_34 S x1 s0 = some res) : J X 34 [(0, .ref (ad 7)), (1, .int x1)] [.int s0] S := by
  rw [f_X7_takesDigit_34] at hF
  refine j_istore_n h hnL [(2, .int s0), (0, .ref (ad 7)), (1, .int x1)] rfl (by decide) rfl dX7_takesDigit_34 ?_
  refine j_iload_n h 0 rfl rfl dX7_takesDigit_35 ?_
  refine j_if_eq h 62 (by decide) dX7_takesDigit_36 hF (fun hF => ?_) (fun hF => ?_)
  · refine j_iload_n h 0 rfl rfl dX7_takesDigit_62 ?_
    obtain ⟨hb_1, hF⟩ := bnd_row hF
    cases hF
    exact hE _ _ dX7_takesDigit_63 (isB_v hb_1)
  · refine j_aload_n h 1 rfl rfl dX7_takesDigit_39 ?_
    refine j_bipush h (v := 10) (by decide) dX7_takesDigit_40 ?_
    refine j_aload_n h 1 rfl rfl dX7_takesDigit_42 ?_
    refine j_get h hM.2.1.o inX7 rfl 11 (by decide) rfl q4_35 rfl dX7_takesDigit_43 ?_
    refine j_imul h dX7_takesDigit_46 ?_
    refine j_iload_n h 2 rfl rfl dX7_takesDigit_47 ?_
    refine j_iadd h dX7_takesDigit_48 ?_
    refine j_put h (hM.2.2.2.2.2.1) inX7 tyX7_ok nmX7 rfl (by decide) rfl q4_35 (Nat.le_of_ble_eq_true rfl) dX7_takesDigit_49 ?_
    refine j_letS hF (fun S_2 hF => ?_)
    refine j_aload_n h 1 rfl rfl dX7_takesDigit_52 ?_
    refine j_dup h rfl dX7_takesDigit_53 ?_
    refine j_get h hM.2.1.o inX7 rfl 12 (by decide) rfl q4_36 rfl dX7_takesDigit_54 ?_
    refine j_iconst h (v := 1) (by decide) dX7_takesDigit_57 ?_
    refine j_iadd h dX7_takesDigit_58 ?_
    refine j_put h (hM.2.2.2.2.2.2.1) inX7 tyX7_ok nmX7 rfl (by decide) rfl q4_36 (Nat.le_of_ble_eq_true rfl) dX7_takesDigit_59 ?_
    refine j_letS hF (fun S_3 hF => ?_)
    refine j_iload_n h 0 rfl rfl dX7_takesDigit_62 ?_
    obtain ⟨hb_4, hF⟩ := bnd_row hF
    cases hF
    exact hE _ _ dX7_takesDigit_63 (isB_v hb_4)
set_option maxHeartbeats 4000000 in
set_option maxRecDepth 100000 in
theorem k_X7_takesDigit_33 {X : JX RS} {ad : Nat → Nat} (h : OK X RX7 cX7_takesDigit rmX7_takesDigit) (hM : IsRef X.cI X.B ad) (hnL : X.nL = 3) {res : Int32 × RS} {S : RS} {x1 : Int32} (hE : EXz X cX7_takesDigit res.1 res.2) (hF : f_X7_takesDigit_33 S x1 = some res) : J X 33 [(0, .ref (ad 7)), (1, .int x1)] [] S := by
  rw [f_X7_takesDigit_33] at hF
  refine j_iconst h (v := 0) (by decide) dX7_takesDigit_33 ?_
  exact j_sub [0, 1] rfl (k_X7_takesDigit_34 h hM hnL hE hF)
set_option maxHeartbeats 4000000 in
set_option maxRecDepth 100000 in
theorem k_X7_takesDigit_14 {X : JX RS} {ad : Nat → Nat} (h : OK X RX7 cX7_takesDigit rmX7_takesDigit) (hM : IsRef X.cI X.B ad) (hnL : X.nL = 3) {res : Int32 × RS} {S : RS} {x1 : Int32} (hE : EXz X cX7_takesDigit res.1 res.2) (hF : f_X7_takesDigit_14 S x1 = some res) : J X 14 [(0, .ref (ad 7)), (1, .int x1)] [] S := by
  rw [f_X7_takesDigit_14] at hF
  refine j_bipush h (v := 10) (by decide) dX7_takesDigit_14 ?_
  refine j_aload_n h 0 rfl rfl dX7_takesDigit_16 ?_
  refine j_get h hM.2.1.o inX7 rfl 11 (by decide) rfl q4_35 rfl dX7_takesDigit_17 ?_
  refine j_imul h dX7_takesDigit_20 ?_
  refine j_iload_n h 1 rfl rfl dX7_takesDigit_21 ?_
  refine j_iadd h dX7_takesDigit_22 ?_
  refine j_sipush h (v := 500) (by decide) dX7_takesDigit_23 ?_
  refine j_icmp_gt h 33 (by decide) dX7_takesDigit_26 hF (fun hF => ?_) (fun hF => ?_)
  · exact j_sub [0, 1] rfl (k_X7_takesDigit_33 h hM hnL hE hF)
  · refine j_iconst h (v := 1) (by decide) dX7_takesDigit_29 ?_
    refine j_goto h 34 (by decide) dX7_takesDigit_30 ?_
    exact j_sub [0, 1] rfl (k_X7_takesDigit_34 h hM hnL hE hF)
set_option maxHeartbeats 4000000 in
set_option maxRecDepth 100000 in
theorem k_X7_takesDigit {X : JX RS} {ad : Nat → Nat} (h : OK X RX7 cX7_takesDigit rmX7_takesDigit) (hM : IsRef X.cI X.B ad) (hnL : X.nL = 3) {res : Int32 × RS} {S : RS} {p1 : Int32} (hE : EXz X cX7_takesDigit res.1 res.2) (hF : f_X7_takesDigit S p1 = some res) : J X 0 [(0, .ref (ad 7)), (1, .int p1)] [] S := by
  rw [f_X7_takesDigit] at hF
  refine j_aload_n h 0 rfl rfl dX7_takesDigit_0 ?_
  refine j_get h hM.2.1.o inX7 rfl 12 (by decide) rfl q4_36 rfl dX7_takesDigit_1 ?_
  refine j_if_eq h 14 (by decide) dX7_takesDigit_4 hF (fun hF => ?_) (fun hF => ?_)
  · exact j_sub [0, 1] rfl (k_X7_takesDigit_14 h hM hnL hE hF)
  · refine j_aload_n h 0 rfl rfl dX7_takesDigit_7 ?_
    refine j_get h hM.2.1.o inX7 rfl 11 (by decide) rfl q4_35 rfl dX7_takesDigit_8 ?_
    refine j_if_le h 33 (by decide) dX7_takesDigit_11 hF (fun hF => ?_) (fun hF => ?_)
    · exact j_sub [0, 1] rfl (k_X7_takesDigit_33 h hM hnL hE hF)
    · exact j_sub [0, 1] rfl (k_X7_takesDigit_14 h hM hnL hE hF)
theorem c_X7_takesDigit (l : Launch) (D : va_G) (cI cZ cV : ClassId) {B : RS → va_W} {ad : Nat → Nat} (hM : IsRef cI B ad) (S : RS) (p1 : Int32) {r : Int32 × RS} (hF : f_X7_takesDigit S p1 = some r) : CTz l D (jtys cI cZ cV) yX7_takesDigit cX7_takesDigit 3 (some .boolean) rmX7_takesDigit B [.ref (ad 7), .int p1] S r.1 r.2 := by
  refine CTz.of [(0, .ref (ad 7)), (1, .int p1)] rfl (Nat.le_of_ble_eq_true rfl) (by decide) ⟨rfl, rfl⟩ (fun X e1 e2 e3 e4 e5 e6 e7 h hE => ?_)
  subst e1; subst e2; subst e3; subst e4; subst e5; subst e6
  exact k_X7_takesDigit h hM e7 hE hF
abbrev rmX7_takesCount : Room := { frames := 0, cells := 0, slots := 0, locals := 0 }
theorem cw_X7_takesCount : CWv RX7 yX7_takesCount cX7_takesCount 5 (some .boolean) 1 := ⟨q5_23, qs58, q1_8, q5_24, ⟨rfl, by decide +kernel, by decide +kernel, by decide +kernel⟩⟩
set_option maxHeartbeats 4000000 in
set_option maxRecDepth 100000 in
theorem k_X7_takesCount_57 {X : JX RS} {ad : Nat → Nat} (h : OK X RX7 cX7_takesCount rmX7_takesCount) (hM : IsRef X.cI X.B ad) (hnL : X.nL = 5) {res : Int32 × RS} {S : RS} {x3 : Int32} {s0 : Int32} (hE : EXz X cX7_takesCount res.1 res.2) (hF : f_X7_takesCount_57 S x3 s0 = some res) : J X 57 [(0, .ref (ad 7)), (3, .int x3)] [.int s0] S := by
  rw [f_X7_takesCount_57] at hF
  refine j_istore h hnL [(4, .int s0), (0, .ref (ad 7)), (3, .int x3)] (by decide) rfl dX7_takesCount_57 ?_
  refine j_iload h 0 rfl dX7_takesCount_59 ?_
  refine j_if_eq h 79 (by decide) dX7_takesCount_61 hF (fun hF => ?_) (fun hF => ?_)
  · refine j_iload h 0 rfl dX7_takesCount_79 ?_
    obtain ⟨hb_2, hF⟩ := bnd_row hF
    cases hF
    exact hE _ _ dX7_takesCount_81 (isB_v hb_2)
  · refine j_aload_n h 1 rfl rfl dX7_takesCount_64 ?_
    refine j_iload_n h 2 rfl rfl dX7_takesCount_65 ?_
    refine j_put h (hM.2.2.2.2.2.2.2.1) inX7 tyX7_ok nmX7 rfl (by decide) rfl q4_37 (Nat.le_of_ble_eq_true rfl) dX7_takesCount_66 ?_
    refine j_letS hF (fun S_3 hF => ?_)
    refine j_aload_n h 1 rfl rfl dX7_takesCount_69 ?_
    refine j_dup h rfl dX7_takesCount_70 ?_
    refine j_get h hM.2.1.o inX7 rfl 14 (by decide) rfl q4_38 rfl dX7_takesCount_71 ?_
    refine j_iconst h (v := 1) (by decide) dX7_takesCount_74 ?_
    refine j_iadd h dX7_takesCount_75 ?_
    refine j_put h (hM.2.2.2.2.2.2.2.2.1) inX7 tyX7_ok nmX7 rfl (by decide) rfl q4_38 (Nat.le_of_ble_eq_true rfl) dX7_takesCount_76 ?_
    refine j_letS hF (fun S_4 hF => ?_)
    refine j_iload h 0 rfl dX7_takesCount_79 ?_
    obtain ⟨hb_5, hF⟩ := bnd_row hF
    cases hF
    exact hE _ _ dX7_takesCount_81 (isB_v hb_5)
set_option maxHeartbeats 4000000 in
set_option maxRecDepth 100000 in
theorem k_X7_takesCount_56 {X : JX RS} {ad : Nat → Nat} (h : OK X RX7 cX7_takesCount rmX7_takesCount) (hM : IsRef X.cI X.B ad) (hnL : X.nL = 5) {res : Int32 × RS} {S : RS} {x3 : Int32} (hE : EXz X cX7_takesCount res.1 res.2) (hF : f_X7_takesCount_56 S x3 = some res) : J X 56 [(0, .ref (ad 7)), (3, .int x3)] [] S := by
  rw [f_X7_takesCount_56] at hF
  refine j_iconst h (v := 0) (by decide) dX7_takesCount_56 ?_
  exact j_sub [0, 1] rfl (k_X7_takesCount_57 h hM hnL hE hF)
set_option maxHeartbeats 4000000 in
set_option maxRecDepth 100000 in
theorem k_X7_takesCount_52 {X : JX RS} {ad : Nat → Nat} (h : OK X RX7 cX7_takesCount rmX7_takesCount) (hM : IsRef X.cI X.B ad) (hnL : X.nL = 5) {res : Int32 × RS} {S : RS} {x3 : Int32} (hE : EXz X cX7_takesCount res.1 res.2) (hF : f_X7_takesCount_52 S x3 = some res) : J X 52 [(0, .ref (ad 7)), (3, .int x3)] [] S := by
  rw [f_X7_takesCount_52] at hF
  refine j_iconst h (v := 1) (by decide) dX7_takesCount_52 ?_
  refine j_goto h 57 (by decide) dX7_takesCount_53 ?_
  exact j_sub [0, 1] rfl (k_X7_takesCount_57 h hM hnL hE hF)
set_option maxHeartbeats 4000000 in
set_option maxRecDepth 100000 in
theorem k_X7_takesCount_28 {X : JX RS} {ad : Nat → Nat} (h : OK X RX7 cX7_takesCount rmX7_takesCount) (hM : IsRef X.cI X.B ad) (hnL : X.nL = 5) {res : Int32 × RS} {S : RS} {x2 : Int32} {s0 : Int32} (hE : EXz X cX7_takesCount res.1 res.2) (hF : f_X7_takesCount_28 S x2 s0 = some res) : J X 28 [(0, .ref (ad 7)), (2, .int x2)] [.int s0] S := by
  rw [f_X7_takesCount_28] at hF
  refine j_istore_n h hnL [(3, .int s0), (0, .ref (ad 7)), (2, .int x2)] rfl (by decide) rfl dX7_takesCount_28 ?_
  refine j_iload_n h 0 rfl rfl dX7_takesCount_29 ?_
  refine j_if_le h 56 (by decide) dX7_takesCount_30 hF (fun hF => ?_) (fun hF => ?_)
  · exact j_sub [1, 0] rfl (k_X7_takesCount_56 h hM hnL hE hF)
  · refine j_iload_n h 0 rfl rfl dX7_takesCount_33 ?_
    refine j_iconst h (v := 1) (by decide) dX7_takesCount_34 ?_
    refine j_icmp_ne h 47 (by decide) dX7_takesCount_35 hF (fun hF => ?_) (fun hF => ?_)
    · refine j_bipush h (v := 10) (by decide) dX7_takesCount_38 ?_
      refine j_iload_n h 2 rfl rfl dX7_takesCount_40 ?_
      refine j_icmp_gt h 56 (by decide) dX7_takesCount_41 hF (fun hF => ?_) (fun hF => ?_)
      · exact j_sub [1, 0] rfl (k_X7_takesCount_56 h hM hnL hE hF)
      · refine j_goto h 52 (by decide) dX7_takesCount_44 ?_
        exact j_sub [1, 0] rfl (k_X7_takesCount_52 h hM hnL hE hF)
    · refine j_iload_n h 0 rfl rfl dX7_takesCount_47 ?_
      refine j_iload_n h 2 rfl rfl dX7_takesCount_48 ?_
      refine j_icmp_gt h 56 (by decide) dX7_takesCount_49 hF (fun hF => ?_) (fun hF => ?_)
      · exact j_sub [1, 0] rfl (k_X7_takesCount_56 h hM hnL hE hF)
      · exact j_sub [1, 0] rfl (k_X7_takesCount_52 h hM hnL hE hF)
set_option maxHeartbeats 4000000 in
set_option maxRecDepth 100000 in
theorem k_X7_takesCount {X : JX RS} {ad : Nat → Nat} (h : OK X RX7 cX7_takesCount rmX7_takesCount) (hM : IsRef X.cI X.B ad) (hnL : X.nL = 5) {res : Int32 × RS} {S : RS} {p1 : Int32} (hE : EXz X cX7_takesCount res.1 res.2) (hF : f_X7_takesCount S p1 = some res) : J X 0 [(0, .ref (ad 7)), (1, .int p1)] [] S := by
  rw [f_X7_takesCount] at hF
  refine j_bipush h (v := 48) (by decide) dX7_takesCount_0 ?_
  refine j_aload_n h 0 rfl rfl dX7_takesCount_2 ?_
  refine j_get h hM.2.1.o inX7 rfl 10 (by decide) rfl q4_34 rfl dX7_takesCount_3 ?_
  refine j_isub h dX7_takesCount_6 ?_
  refine j_let hF (fun x_1 hF => ?_)
  refine j_istore_n h hnL [(2, .int x_1), (0, .ref (ad 7)), (1, .int p1)] rfl (by decide) rfl dX7_takesCount_7 ?_
  refine j_aload_n h 1 rfl rfl dX7_takesCount_8 ?_
  refine j_get h hM.2.1.o inX7 rfl 14 (by decide) rfl q4_38 rfl dX7_takesCount_9 ?_
  refine j_if_ne h 19 (by decide) dX7_takesCount_12 hF (fun hF => ?_) (fun hF => ?_)
  · refine j_iload_n h 2 rfl rfl dX7_takesCount_15 ?_
    refine j_goto h 28 (by decide) dX7_takesCount_16 ?_
    exact j_sub [1, 0] rfl (k_X7_takesCount_28 h hM hnL hE hF)
  · refine j_bipush h (v := 10) (by decide) dX7_takesCount_19 ?_
    refine j_aload_n h 1 rfl rfl dX7_takesCount_21 ?_
    refine j_get h hM.2.1.o inX7 rfl 13 (by decide) rfl q4_37 rfl dX7_takesCount_22 ?_
    refine j_imul h dX7_takesCount_25 ?_
    refine j_iload_n h 2 rfl rfl dX7_takesCount_26 ?_
    refine j_iadd h dX7_takesCount_27 ?_
    exact j_sub [1, 0] rfl (k_X7_takesCount_28 h hM hnL hE hF)
theorem c_X7_takesCount (l : Launch) (D : va_G) (cI cZ cV : ClassId) {B : RS → va_W} {ad : Nat → Nat} (hM : IsRef cI B ad) (S : RS) (p1 : Int32) {r : Int32 × RS} (hF : f_X7_takesCount S p1 = some r) : CTz l D (jtys cI cZ cV) yX7_takesCount cX7_takesCount 5 (some .boolean) rmX7_takesCount B [.ref (ad 7), .int p1] S r.1 r.2 := by
  refine CTz.of [(0, .ref (ad 7)), (1, .int p1)] rfl (Nat.le_of_ble_eq_true rfl) (by decide) ⟨rfl, rfl⟩ (fun X e1 e2 e3 e4 e5 e6 e7 h hE => ?_)
  subst e1; subst e2; subst e3; subst e4; subst e5; subst e6
  exact k_X7_takesCount h hM e7 hE hF
abbrev rmX7_isItem : Room := { frames := 0, cells := 0, slots := 0, locals := 0 }
theorem cw_X7_isItem : CWv RX7 yX7_isItem cX7_isItem 1 (some .boolean) 0 := ⟨q5_11, qs55, q1_8, q5_12, ⟨rfl, by decide +kernel, by decide +kernel, by decide +kernel⟩⟩
set_option maxHeartbeats 4000000 in
set_option maxRecDepth 100000 in
theorem k_X7_isItem {X : JX RS} {ad : Nat → Nat} (h : OK X RX7 cX7_isItem rmX7_isItem) (hM : IsRef X.cI X.B ad) (hnL : X.nL = 1) {res : Int32} {S : RS} (hE : EXz X cX7_isItem res S) (hF : f_X7_isItem S = some res) : J X 0 [(0, .ref (ad 7))] [] S := by
  rw [f_X7_isItem] at hF
  refine j_aload_n h 0 rfl rfl dX7_isItem_0 ?_
  refine j_get h hM.2.1.o inX7 rfl 12 (by decide) rfl q4_36 rfl dX7_isItem_1 ?_
  refine j_if_le h 26 (by decide) dX7_isItem_4 hF (fun hF => ?_) (fun hF => ?_)
  · refine j_iconst h (v := 0) (by decide) dX7_isItem_26 ?_
    cases hF
    exact hE _ _ dX7_isItem_27 (isB_v (y := (0 : Int32)) (by decide))
  · refine j_aload_n h 0 rfl rfl dX7_isItem_7 ?_
    refine j_get h hM.2.1.o inX7 rfl 14 (by decide) rfl q4_38 rfl dX7_isItem_8 ?_
    refine j_if_lt h 22 (by decide) dX7_isItem_11 hF (fun hF => ?_) (fun hF => ?_)
    · refine j_iconst h (v := 1) (by decide) dX7_isItem_22 ?_
      refine j_goto h 27 (by decide) dX7_isItem_23 ?_
      cases hF
      exact hE _ _ dX7_isItem_27 (isB_v (y := (1 : Int32)) (by decide))
    · refine j_aload_n h 0 rfl rfl dX7_isItem_14 ?_
      refine j_get h hM.2.1.o inX7 rfl 13 (by decide) rfl q4_37 rfl dX7_isItem_15 ?_
      refine j_iconst h (v := 1) (by decide) dX7_isItem_18 ?_
      refine j_icmp_le h 26 (by decide) dX7_isItem_19 hF (fun hF => ?_) (fun hF => ?_)
      · refine j_iconst h (v := 0) (by decide) dX7_isItem_26 ?_
        cases hF
        exact hE _ _ dX7_isItem_27 (isB_v (y := (0 : Int32)) (by decide))
      · refine j_iconst h (v := 1) (by decide) dX7_isItem_22 ?_
        refine j_goto h 27 (by decide) dX7_isItem_23 ?_
        cases hF
        exact hE _ _ dX7_isItem_27 (isB_v (y := (1 : Int32)) (by decide))
theorem c_X7_isItem (l : Launch) (D : va_G) (cI cZ cV : ClassId) {B : RS → va_W} {ad : Nat → Nat} (hM : IsRef cI B ad) (S : RS) {r : Int32} (hF : f_X7_isItem S = some r) : CTz l D (jtys cI cZ cV) yX7_isItem cX7_isItem 1 (some .boolean) rmX7_isItem B [.ref (ad 7)] S r S := by
  refine CTz.of [(0, .ref (ad 7))] rfl (Nat.le_of_ble_eq_true rfl) (by decide) ⟨rfl, rfl⟩ (fun X e1 e2 e3 e4 e5 e6 e7 h hE => ?_)
  subst e1; subst e2; subst e3; subst e4; subst e5; subst e6
  exact k_X7_isItem h hM e7 hE hF
abbrev rmX7_endItem : Room := { frames := 1, cells := 0, slots := 0, locals := 20 }
theorem cw_X7_endItem : CWv RX7 yX7_endItem cX7_endItem 2 none 0 := ⟨q5_15, qs56, q1_8, q5_16, ⟨rfl, by decide +kernel, by decide +kernel, by decide +kernel⟩⟩
set_option maxHeartbeats 4000000 in
set_option maxRecDepth 100000 in
theorem k_X7_endItem_2 {X : JX RS} {ad : Nat → Nat} (h : OK X RX7 cX7_endItem rmX7_endItem) (hM : IsRef X.cI X.B ad) (hnL : X.nL = 2) {res : RS} (hE : EXv X cX7_endItem res) : ∀ (n : Nat) (x1 : Int32) (S : RS), f_X7_endItem_2 n x1 S = some res → J X 2 [(0, .ref (ad 7)), (1, .int x1)] [] S := by
  intro n
  induction n with
  | zero =>
    intro x1 S hF
    rw [f_X7_endItem_2] at hF
    cases hF
  | succ n ih =>
    intro x1 S hF
    rw [f_X7_endItem_2] at hF
    refine j_iload_n h 1 rfl rfl dX7_endItem_2 ?_
    refine j_aload_n h 0 rfl rfl dX7_endItem_3 ?_
    refine j_get h hM.2.1.o inX7 rfl 13 (by decide) rfl q4_37 rfl dX7_endItem_4 ?_
    refine j_icmp_ge h 39 (by decide) dX7_endItem_7 hF (fun hF => ?_) (fun hF => ?_)
    · refine j_aload_n h 0 rfl rfl dX7_endItem_39 ?_
      obtain ⟨r_1, hr_1, hF⟩ := bind_row hF
      refine j_callVv h (st := []) (S' := r_1) (c_X7_beginItem X.l X.D X.cI X.cZ X.cV hM S hr_1) rfl rfl q5_1 cw_X7_beginItem hM.2.1.o rfl rfl rfl ⟨rfl, rfl, Nat.le_of_ble_eq_true rfl, Nat.le_of_ble_eq_true rfl⟩ _ rfl (Nat.le_of_ble_eq_true rfl) dX7_endItem_40 ?_
      cases hF
      exact hE _ _ dX7_endItem_43
    · refine j_aload_n h 0 rfl rfl dX7_endItem_10 ?_
      refine j_get h hM.2.1.o inX7 rfl 9 (by decide) rfl q4_33 rfl dX7_endItem_11 ?_
      refine j_aload_n h 0 rfl rfl dX7_endItem_14 ?_
      refine j_get h hM.2.1.o inX7 rfl 10 (by decide) rfl q4_34 rfl dX7_endItem_15 ?_
      refine j_aload_n h 0 rfl rfl dX7_endItem_18 ?_
      refine j_get h hM.2.1.o inX7 rfl 11 (by decide) rfl q4_35 rfl dX7_endItem_19 ?_
      obtain ⟨hb_2, hF⟩ := bnd_row hF
      refine ja_iast h (get := fun S => S.1) (put := setR) (hM.1 6 (by decide)) hb_2 dX7_endItem_22 ?_
      refine j_letS hF (fun S_3 hF => ?_)
      refine j_aload_n h 0 rfl rfl dX7_endItem_23 ?_
      refine j_dup h rfl dX7_endItem_24 ?_
      refine j_get h hM.2.1.o inX7 rfl 10 (by decide) rfl q4_34 rfl dX7_endItem_25 ?_
      refine j_iconst h (v := 1) (by decide) dX7_endItem_28 ?_
      refine j_iadd h dX7_endItem_29 ?_
      refine j_put h (hM.2.2.2.2.1) inX7 tyX7_ok nmX7 rfl (by decide) rfl q4_34 (Nat.le_of_ble_eq_true rfl) dX7_endItem_30 ?_
      refine j_letS hF (fun S_4 hF => ?_)
      refine j_iincL hF (fun x_5 ex_5 hF => ?_)
      refine j_iinc h hnL 1 [(1, .int x_5), (0, .ref (ad 7))] rfl ex_5 (by decide) (by decide) rfl dX7_endItem_33 ?_
      refine j_goto h 2 (by decide) dX7_endItem_36 ?_
      exact j_sub [1, 0] rfl (ih _ _ hF)
set_option maxHeartbeats 4000000 in
set_option maxRecDepth 100000 in
theorem k_X7_endItem {X : JX RS} {ad : Nat → Nat} (h : OK X RX7 cX7_endItem rmX7_endItem) (hM : IsRef X.cI X.B ad) (hnL : X.nL = 2) {res : RS} {S : RS} (hE : EXv X cX7_endItem res) (hF : f_X7_endItem S = some res) : J X 0 [(0, .ref (ad 7))] [] S := by
  rw [f_X7_endItem] at hF
  refine j_iconst h (v := 0) (by decide) dX7_endItem_0 ?_
  refine j_istore_n h hnL [(1, .int (0 : Int32)), (0, .ref (ad 7))] rfl (by decide) rfl dX7_endItem_1 ?_
  exact j_sub [1, 0] rfl (k_X7_endItem_2 h hM hnL hE fuel _ _ hF)
theorem c_X7_endItem (l : Launch) (D : va_G) (cI cZ cV : ClassId) {B : RS → va_W} {ad : Nat → Nat} (hM : IsRef cI B ad) (S : RS) {r : RS} (hF : f_X7_endItem S = some r) : CTv l D (jtys cI cZ cV) yX7_endItem cX7_endItem 2 none rmX7_endItem B [.ref (ad 7)] S r := by
  refine CTv.of [(0, .ref (ad 7))] rfl (Nat.le_of_ble_eq_true rfl) (by decide) ⟨rfl, rfl⟩ (fun X e1 e2 e3 e4 e5 e6 e7 h hE => ?_)
  subst e1; subst e2; subst e3; subst e4; subst e5; subst e6
  exact k_X7_endItem h hM e7 hE hF
abbrev rmX7_takes : Room := { frames := 2, cells := 0, slots := 0, locals := 41 }
theorem cw_X7_takes : CWv RX7 yX7_takes cX7_takes 3 (some .boolean) 1 := ⟨q5_7, qs54, q1_8, q5_8, ⟨rfl, by decide +kernel, by decide +kernel, by decide +kernel⟩⟩
set_option maxHeartbeats 4000000 in
set_option maxRecDepth 100000 in
theorem k_X7_takes_32 {X : JX RS} {ad : Nat → Nat} (h : OK X RX7 cX7_takes rmX7_takes) (hM : IsRef X.cI X.B ad) (hnL : X.nL = 3) {res : Int32 × RS} {S : RS} {s0 : Int32} (hE : EXz X cX7_takes res.1 res.2) (hF : f_X7_takes_32 S s0 = some res) : J X 32 [(0, .ref (ad 7))] [.int s0] S := by
  rw [f_X7_takes_32] at hF
  refine j_istore_n h hnL [(2, .int s0), (0, .ref (ad 7))] rfl (by decide) rfl dX7_takes_32 ?_
  refine j_iload_n h 0 rfl rfl dX7_takes_33 ?_
  refine j_if_eq h 41 (by decide) dX7_takes_34 hF (fun hF => ?_) (fun hF => ?_)
  · refine j_iload_n h 0 rfl rfl dX7_takes_41 ?_
    obtain ⟨hb_2, hF⟩ := bnd_row hF
    cases hF
    exact hE _ _ dX7_takes_42 (isB_v hb_2)
  · refine j_aload_n h 1 rfl rfl dX7_takes_37 ?_
    obtain ⟨r_3, hr_3, hF⟩ := bind_row hF
    refine j_callVv h (st := []) (S' := r_3) (c_X7_endItem X.l X.D X.cI X.cZ X.cV hM S hr_3) rfl rfl q5_13 cw_X7_endItem hM.2.1.o rfl rfl rfl ⟨rfl, rfl, Nat.le_of_ble_eq_true rfl, Nat.le_of_ble_eq_true rfl⟩ _ rfl (Nat.le_of_ble_eq_true rfl) dX7_takes_38 ?_
    refine j_iload_n h 0 rfl rfl dX7_takes_41 ?_
    obtain ⟨hb_4, hF⟩ := bnd_row hF
    cases hF
    exact hE _ _ dX7_takes_42 (isB_v hb_4)
set_option maxHeartbeats 4000000 in
set_option maxRecDepth 100000 in
theorem k_X7_takes_31 {X : JX RS} {ad : Nat → Nat} (h : OK X RX7 cX7_takes rmX7_takes) (hM : IsRef X.cI X.B ad) (hnL : X.nL = 3) {res : Int32 × RS} {S : RS} (hE : EXz X cX7_takes res.1 res.2) (hF : f_X7_takes_31 S = some res) : J X 31 [(0, .ref (ad 7))] [] S := by
  rw [f_X7_takes_31] at hF
  refine j_iconst h (v := 0) (by decide) dX7_takes_31 ?_
  exact j_sub [0] rfl (k_X7_takes_32 h hM hnL hE hF)
set_option maxHeartbeats 4000000 in
set_option maxRecDepth 100000 in
theorem k_X7_takes_109 {X : JX RS} {ad : Nat → Nat} (h : OK X RX7 cX7_takes rmX7_takes) (hM : IsRef X.cI X.B ad) (hnL : X.nL = 3) {res : Int32 × RS} {S : RS} {x2 : Int32} {s0 : Int32} (hE : EXz X cX7_takes res.1 res.2) (hF : f_X7_takes_109 S x2 s0 = some res) : J X 109 [(2, .int x2)] [.int s0, .ref (ad 7)] S := by
  rw [f_X7_takes_109] at hF
  refine j_put h (hM.2.2.2.2.2.2.2.1) inX7 tyX7_ok nmX7 rfl (by decide) rfl q4_37 (Nat.le_of_ble_eq_true rfl) dX7_takes_109 ?_
  refine j_letS hF (fun S_6 hF => ?_)
  refine j_iload_n h 0 rfl rfl dX7_takes_112 ?_
  obtain ⟨hb_7, hF⟩ := bnd_row hF
  cases hF
  exact hE _ _ dX7_takes_113 (isB_v hb_7)
set_option maxHeartbeats 4000000 in
set_option maxRecDepth 100000 in
theorem k_X7_takes_93 {X : JX RS} {ad : Nat → Nat} (h : OK X RX7 cX7_takes rmX7_takes) (hM : IsRef X.cI X.B ad) (hnL : X.nL = 3) {res : Int32 × RS} {S : RS} {x2 : Int32} {s0 : Int32} (hE : EXz X cX7_takes res.1 res.2) (hF : f_X7_takes_93 S x2 s0 = some res) : J X 93 [(0, .ref (ad 7)), (2, .int x2)] [.int s0, .ref (ad 7)] S := by
  rw [f_X7_takes_93] at hF
  refine j_put h (hM.2.2.2.2.2.2.2.2.1) inX7 tyX7_ok nmX7 rfl (by decide) rfl q4_38 (Nat.le_of_ble_eq_true rfl) dX7_takes_93 ?_
  refine j_letS hF (fun S_5 hF => ?_)
  refine j_aload_n h 0 rfl rfl dX7_takes_96 ?_
  refine j_iload_n h 1 rfl rfl dX7_takes_97 ?_
  refine j_if_eq h 105 (by decide) dX7_takes_98 hF (fun hF => ?_) (fun hF => ?_)
  · refine j_aload_n h 0 rfl rfl dX7_takes_105 ?_
    refine j_get h hM.2.1.o inX7 rfl 13 (by decide) rfl q4_37 rfl dX7_takes_106 ?_
    exact j_sub [1] rfl (k_X7_takes_109 h hM hnL hE hF)
  · refine j_iconst h (v := 0) (by decide) dX7_takes_101 ?_
    refine j_goto h 109 (by decide) dX7_takes_102 ?_
    exact j_sub [1] rfl (k_X7_takes_109 h hM hnL hE hF)
set_option maxHeartbeats 4000000 in
set_option maxRecDepth 100000 in
theorem k_X7_takes_79 {X : JX RS} {ad : Nat → Nat} (h : OK X RX7 cX7_takes rmX7_takes) (hM : IsRef X.cI X.B ad) (hnL : X.nL = 3) {res : Int32 × RS} {S : RS} {s0 : Int32} (hE : EXz X cX7_takes res.1 res.2) (hF : f_X7_takes_79 S s0 = some res) : J X 79 [(0, .ref (ad 7))] [.int s0] S := by
  rw [f_X7_takes_79] at hF
  refine j_istore_n h hnL [(2, .int s0), (0, .ref (ad 7))] rfl (by decide) rfl dX7_takes_79 ?_
  refine j_aload_n h 1 rfl rfl dX7_takes_80 ?_
  refine j_iload_n h 0 rfl rfl dX7_takes_81 ?_
  refine j_if_eq h 89 (by decide) dX7_takes_82 hF (fun hF => ?_) (fun hF => ?_)
  · refine j_aload_n h 1 rfl rfl dX7_takes_89 ?_
    refine j_get h hM.2.1.o inX7 rfl 14 (by decide) rfl q4_38 rfl dX7_takes_90 ?_
    exact j_sub [1, 0] rfl (k_X7_takes_93 h hM hnL hE hF)
  · refine j_iconst h (v := 0) (by decide) dX7_takes_85 ?_
    refine j_goto h 93 (by decide) dX7_takes_86 ?_
    exact j_sub [1, 0] rfl (k_X7_takes_93 h hM hnL hE hF)
set_option maxHeartbeats 4000000 in
set_option maxRecDepth 100000 in
theorem k_X7_takes_78 {X : JX RS} {ad : Nat → Nat} (h : OK X RX7 cX7_takes rmX7_takes) (hM : IsRef X.cI X.B ad) (hnL : X.nL = 3) {res : Int32 × RS} {S : RS} (hE : EXz X cX7_takes res.1 res.2) (hF : f_X7_takes_78 S = some res) : J X 78 [(0, .ref (ad 7))] [] S := by
  rw [f_X7_takes_78] at hF
  refine j_iconst h (v := 0) (by decide) dX7_takes_78 ?_
  exact j_sub [0] rfl (k_X7_takes_79 h hM hnL hE hF)
set_option maxHeartbeats 4000000 in
set_option maxRecDepth 100000 in
theorem k_X7_takes {X : JX RS} {ad : Nat → Nat} (h : OK X RX7 cX7_takes rmX7_takes) (hM : IsRef X.cI X.B ad) (hnL : X.nL = 3) {res : Int32 × RS} {S : RS} {p1 : Int32} (hE : EXz X cX7_takes res.1 res.2) (hF : f_X7_takes S p1 = some res) : J X 0 [(0, .ref (ad 7)), (1, .int p1)] [] S := by
  rw [f_X7_takes] at hF
  refine j_iload_n h 1 rfl rfl dX7_takes_0 ?_
  refine j_bipush h (v := 44) (by decide) dX7_takes_1 ?_
  refine j_icmp_ne h 43 (by decide) dX7_takes_3 hF (fun hF => ?_) (fun hF => ?_)
  · refine j_aload_n h 0 rfl rfl dX7_takes_6 ?_
    obtain ⟨r_1, hr_1, hF⟩ := bind_row hF
    refine j_callVz h (st := []) (S' := S) (c_X7_isItem X.l X.D X.cI X.cZ X.cV hM S hr_1) rfl rfl q5_9 cw_X7_isItem hM.2.1.o rfl rfl rfl ⟨rfl, rfl, Nat.le_of_ble_eq_true rfl, Nat.le_of_ble_eq_true rfl⟩ _ rfl (Nat.le_of_ble_eq_true rfl) dX7_takes_7 (fun hz_r_1 => ?_)
    refine j_if_eq h 31 (by decide) dX7_takes_10 hF (fun hF => ?_) (fun hF => ?_)
    · exact j_sub [0] rfl (k_X7_takes_31 h hM hnL hE hF)
    · refine j_aload_n h 0 rfl rfl dX7_takes_13 ?_
      refine j_get h hM.2.1.o inX7 rfl 10 (by decide) rfl q4_34 rfl dX7_takes_14 ?_
      refine j_aload_n h 0 rfl rfl dX7_takes_17 ?_
      refine j_get h hM.2.1.o inX7 rfl 13 (by decide) rfl q4_37 rfl dX7_takes_18 ?_
      refine j_iadd h dX7_takes_21 ?_
      refine j_bipush h (v := 48) (by decide) dX7_takes_22 ?_
      refine j_icmp_ge h 31 (by decide) dX7_takes_24 hF (fun hF => ?_) (fun hF => ?_)
      · exact j_sub [0] rfl (k_X7_takes_31 h hM hnL hE hF)
      · refine j_iconst h (v := 1) (by decide) dX7_takes_27 ?_
        refine j_goto h 32 (by decide) dX7_takes_28 ?_
        exact j_sub [0] rfl (k_X7_takes_32 h hM hnL hE hF)
  · refine j_iload_n h 1 rfl rfl dX7_takes_43 ?_
    refine j_bipush h (v := 42) (by decide) dX7_takes_44 ?_
    refine j_icmp_ne h 114 (by decide) dX7_takes_46 hF (fun hF => ?_) (fun hF => ?_)
    · refine j_aload_n h 0 rfl rfl dX7_takes_49 ?_
      refine j_get h hM.2.1.o inX7 rfl 12 (by decide) rfl q4_36 rfl dX7_takes_50 ?_
      refine j_if_le h 78 (by decide) dX7_takes_53 hF (fun hF => ?_) (fun hF => ?_)
      · exact j_sub [0] rfl (k_X7_takes_78 h hM hnL hE hF)
      · refine j_aload_n h 0 rfl rfl dX7_takes_56 ?_
        refine j_get h hM.2.1.o inX7 rfl 14 (by decide) rfl q4_38 rfl dX7_takes_57 ?_
        refine j_if_ge h 78 (by decide) dX7_takes_60 hF (fun hF => ?_) (fun hF => ?_)
        · exact j_sub [0] rfl (k_X7_takes_78 h hM hnL hE hF)
        · refine j_aload_n h 0 rfl rfl dX7_takes_63 ?_
          refine j_get h hM.2.1.o inX7 rfl 10 (by decide) rfl q4_34 rfl dX7_takes_64 ?_
          refine j_iconst h (v := 2) (by decide) dX7_takes_67 ?_
          refine j_iadd h dX7_takes_68 ?_
          refine j_bipush h (v := 48) (by decide) dX7_takes_69 ?_
          refine j_icmp_gt h 78 (by decide) dX7_takes_71 hF (fun hF => ?_) (fun hF => ?_)
          · exact j_sub [0] rfl (k_X7_takes_78 h hM hnL hE hF)
          · refine j_iconst h (v := 1) (by decide) dX7_takes_74 ?_
            refine j_goto h 79 (by decide) dX7_takes_75 ?_
            exact j_sub [0] rfl (k_X7_takes_79 h hM hnL hE hF)
    · refine j_iload_n h 1 rfl rfl dX7_takes_114 ?_
      refine j_bipush h (v := 48) (by decide) dX7_takes_115 ?_
      refine j_bipush h (v := 57) (by decide) dX7_takes_117 ?_
      obtain ⟨r_8, hr_8, hF⟩ := bind_row hF
      refine j_callSz h (st := []) (S' := S) (c_X7_within X.l X.D X.cI X.cZ X.cV (B := X.B) S p1 (48 : Int32) (57 : Int32) hr_8) rfl rfl q4_77 cw_X7_within rfl ⟨rfl, rfl, Nat.le_of_ble_eq_true rfl, Nat.le_of_ble_eq_true rfl⟩ _ rfl (Nat.le_of_ble_eq_true rfl) dX7_takes_119 (fun hz_r_8 => ?_)
      refine j_if_ne h 127 (by decide) dX7_takes_122 hF (fun hF => ?_) (fun hF => ?_)
      · refine j_iconst h (v := 0) (by decide) dX7_takes_125 ?_
        cases hF
        exact hE _ _ dX7_takes_126 (isB_v (y := (0 : Int32)) (by decide))
      · refine j_aload_n h 0 rfl rfl dX7_takes_127 ?_
        refine j_get h hM.2.1.o inX7 rfl 14 (by decide) rfl q4_38 rfl dX7_takes_128 ?_
        refine j_if_ge h 145 (by decide) dX7_takes_131 hF (fun hF => ?_) (fun hF => ?_)
        · refine j_aload_n h 0 rfl rfl dX7_takes_145 ?_
          refine j_iload_n h 1 rfl rfl dX7_takes_146 ?_
          refine j_bipush h (v := 48) (by decide) dX7_takes_147 ?_
          refine j_isub h dX7_takes_149 ?_
          obtain ⟨r_9, hr_9, hF⟩ := bind_row hF
          refine j_callVz h (st := []) (S' := r_9.2) (c_X7_takesCount X.l X.D X.cI X.cZ X.cV hM S (p1 - (48 : Int32)) hr_9) rfl rfl q5_21 cw_X7_takesCount hM.2.1.o rfl rfl rfl ⟨rfl, rfl, Nat.le_of_ble_eq_true rfl, Nat.le_of_ble_eq_true rfl⟩ _ rfl (Nat.le_of_ble_eq_true rfl) dX7_takes_150 (fun hz_r_9 => ?_)
          cases hF
          exact hE _ _ dX7_takes_153 (by assumption)
        · refine j_aload_n h 0 rfl rfl dX7_takes_134 ?_
          refine j_iload_n h 1 rfl rfl dX7_takes_135 ?_
          refine j_bipush h (v := 48) (by decide) dX7_takes_136 ?_
          refine j_isub h dX7_takes_138 ?_
          obtain ⟨r_10, hr_10, hF⟩ := bind_row hF
          refine j_callVz h (st := []) (S' := r_10.2) (c_X7_takesDigit X.l X.D X.cI X.cZ X.cV hM S (p1 - (48 : Int32)) hr_10) rfl rfl q5_17 cw_X7_takesDigit hM.2.1.o rfl rfl rfl ⟨rfl, rfl, Nat.le_of_ble_eq_true rfl, Nat.le_of_ble_eq_true rfl⟩ _ rfl (Nat.le_of_ble_eq_true rfl) dX7_takes_139 (fun hz_r_10 => ?_)
          refine j_goto h 153 (by decide) dX7_takes_142 ?_
          cases hF
          exact hE _ _ dX7_takes_153 (by assumption)
theorem c_X7_takes (l : Launch) (D : va_G) (cI cZ cV : ClassId) {B : RS → va_W} {ad : Nat → Nat} (hM : IsRef cI B ad) (S : RS) (p1 : Int32) {r : Int32 × RS} (hF : f_X7_takes S p1 = some r) : CTz l D (jtys cI cZ cV) yX7_takes cX7_takes 3 (some .boolean) rmX7_takes B [.ref (ad 7), .int p1] S r.1 r.2 := by
  refine CTz.of [(0, .ref (ad 7)), (1, .int p1)] rfl (Nat.le_of_ble_eq_true rfl) (by decide) ⟨rfl, rfl⟩ (fun X e1 e2 e3 e4 e5 e6 e7 h hE => ?_)
  subst e1; subst e2; subst e3; subst e4; subst e5; subst e6
  exact k_X7_takes h hM e7 hE hF
abbrev rmX7_faultNow : Room := { frames := 3, cells := 0, slots := 0, locals := 63 }
theorem cw_X7_faultNow : CWv RX7 yX7_faultNow cX7_faultNow 2 (some .int) 0 := ⟨q4_239, qs52, q1_8, q5_0, ⟨rfl, by decide +kernel, by decide +kernel, by decide +kernel⟩⟩
set_option maxHeartbeats 4000000 in
set_option maxRecDepth 100000 in
theorem k_X7_faultNow_38 {X : JX RS} {ad : Nat → Nat} (h : OK X RX7 cX7_faultNow rmX7_faultNow) (hM : IsRef X.cI X.B ad) (hnL : X.nL = 2) {res : Int32 × RS} {S : RS} {x1 : Int32} (hE : EXi X cX7_faultNow res.1 res.2) (hF : f_X7_faultNow_38 S x1 = some res) : J X 38 [(0, .ref (ad 7)), (1, .int x1)] [] S := by
  rw [f_X7_faultNow_38] at hF
  refine j_iload_n h 1 rfl rfl dX7_faultNow_38 ?_
  refine j_aload_n h 0 rfl rfl dX7_faultNow_39 ?_
  refine j_get h hM.2.1.o inX7 rfl 6 (by decide) rfl q4_30 rfl dX7_faultNow_40 ?_
  refine j_icmp_lt h 53 (by decide) dX7_faultNow_43 hF (fun hF => ?_) (fun hF => ?_)
  · refine j_iload_n h 1 rfl rfl dX7_faultNow_53 ?_
    refine j_goto h 59 (by decide) dX7_faultNow_54 ?_
    cases hF
    exact hE _ _ dX7_faultNow_59
  · refine j_aload_n h 0 rfl rfl dX7_faultNow_46 ?_
    obtain ⟨r_3, hr_3, hF⟩ := bind_row hF
    refine j_callVz h (st := []) (S' := S) (c_X7_isItem X.l X.D X.cI X.cZ X.cV hM S hr_3) rfl rfl q5_9 cw_X7_isItem hM.2.1.o rfl rfl rfl ⟨rfl, rfl, Nat.le_of_ble_eq_true rfl, Nat.le_of_ble_eq_true rfl⟩ _ rfl (Nat.le_of_ble_eq_true rfl) dX7_faultNow_47 (fun hz_r_3 => ?_)
    refine j_if_ne h 57 (by decide) dX7_faultNow_50 hF (fun hF => ?_) (fun hF => ?_)
    · refine j_iload_n h 1 rfl rfl dX7_faultNow_53 ?_
      refine j_goto h 59 (by decide) dX7_faultNow_54 ?_
      cases hF
      exact hE _ _ dX7_faultNow_59
    · refine j_ldc h (v := -1000001) q4_162 dX7_faultNow_57 ?_
      cases hF
      exact hE _ _ dX7_faultNow_59
set_option maxHeartbeats 4000000 in
set_option maxRecDepth 100000 in
theorem k_X7_faultNow_11 {X : JX RS} {ad : Nat → Nat} (h : OK X RX7 cX7_faultNow rmX7_faultNow) (hM : IsRef X.cI X.B ad) (hnL : X.nL = 2) {res : Int32 × RS} (hE : EXi X cX7_faultNow res.1 res.2) : ∀ (n : Nat) (x1 : Int32) (S : RS), f_X7_faultNow_11 n x1 S = some res → J X 11 [(0, .ref (ad 7)), (1, .int x1)] [] S := by
  intro n
  induction n with
  | zero =>
    intro x1 S hF
    rw [f_X7_faultNow_11] at hF
    cases hF
  | succ n ih =>
    intro x1 S hF
    rw [f_X7_faultNow_11] at hF
    refine j_iload_n h 1 rfl rfl dX7_faultNow_11 ?_
    refine j_aload_n h 0 rfl rfl dX7_faultNow_12 ?_
    refine j_get h hM.2.1.o inX7 rfl 6 (by decide) rfl q4_30 rfl dX7_faultNow_13 ?_
    refine j_icmp_ge h 38 (by decide) dX7_faultNow_16 hF (fun hF => ?_) (fun hF => ?_)
    · exact j_sub [0, 1] rfl (k_X7_faultNow_38 h hM hnL hE hF)
    · refine j_aload_n h 0 rfl rfl dX7_faultNow_19 ?_
      refine j_aload_n h 0 rfl rfl dX7_faultNow_20 ?_
      refine j_get h hM.2.1.o inX7 rfl 7 (by decide) rfl q4_31 rfl dX7_faultNow_21 ?_
      refine j_iload_n h 1 rfl rfl dX7_faultNow_24 ?_
      obtain ⟨hb_4, hF⟩ := bnd_row hF
      refine ja_iald h (get := fun S => S.1) (put := setR) (hM.1 4 (by decide)) hb_4 dX7_faultNow_25 ?_
      obtain ⟨r_5, hr_5, hF⟩ := bind_row hF
      refine j_callVz h (st := []) (S' := r_5.2) (c_X7_takes X.l X.D X.cI X.cZ X.cV hM S (rd S.1 4 x1) hr_5) rfl rfl q5_5 cw_X7_takes hM.2.1.o rfl rfl rfl ⟨rfl, rfl, Nat.le_of_ble_eq_true rfl, Nat.le_of_ble_eq_true rfl⟩ _ rfl (Nat.le_of_ble_eq_true rfl) dX7_faultNow_26 (fun hz_r_5 => ?_)
      refine j_if_eq h 38 (by decide) dX7_faultNow_29 hF (fun hF => ?_) (fun hF => ?_)
      · exact j_sub [0, 1] rfl (k_X7_faultNow_38 h hM hnL hE hF)
      · refine j_iincL hF (fun x_6 ex_6 hF => ?_)
        refine j_iinc h hnL 1 [(1, .int x_6), (0, .ref (ad 7))] rfl ex_6 (by decide) (by decide) rfl dX7_faultNow_32 ?_
        refine j_goto h 11 (by decide) dX7_faultNow_35 ?_
        exact j_sub [1, 0] rfl (ih _ _ hF)
set_option maxHeartbeats 4000000 in
set_option maxRecDepth 100000 in
theorem k_X7_faultNow {X : JX RS} {ad : Nat → Nat} (h : OK X RX7 cX7_faultNow rmX7_faultNow) (hM : IsRef X.cI X.B ad) (hnL : X.nL = 2) {res : Int32 × RS} {S : RS} (hE : EXi X cX7_faultNow res.1 res.2) (hF : f_X7_faultNow S = some res) : J X 0 [(0, .ref (ad 7))] [] S := by
  rw [f_X7_faultNow] at hF
  refine j_aload_n h 0 rfl rfl dX7_faultNow_0 ?_
  refine j_iconst h (v := 0) (by decide) dX7_faultNow_1 ?_
  refine j_put h (hM.2.2.2.2.1) inX7 tyX7_ok nmX7 rfl (by decide) rfl q4_34 (Nat.le_of_ble_eq_true rfl) dX7_faultNow_2 ?_
  refine j_letS hF (fun S_1 hF => ?_)
  refine j_aload_n h 0 rfl rfl dX7_faultNow_5 ?_
  obtain ⟨r_2, hr_2, hF⟩ := bind_row hF
  refine j_callVv h (st := []) (S' := r_2) (c_X7_beginItem X.l X.D X.cI X.cZ X.cV hM S_1 hr_2) rfl rfl q5_1 cw_X7_beginItem hM.2.1.o rfl rfl rfl ⟨rfl, rfl, Nat.le_of_ble_eq_true rfl, Nat.le_of_ble_eq_true rfl⟩ _ rfl (Nat.le_of_ble_eq_true rfl) dX7_faultNow_6 ?_
  refine j_iconst h (v := 0) (by decide) dX7_faultNow_9 ?_
  refine j_istore_n h hnL [(1, .int (0 : Int32)), (0, .ref (ad 7))] rfl (by decide) rfl dX7_faultNow_10 ?_
  exact j_sub [1, 0] rfl (k_X7_faultNow_11 h hM hnL hE fuel _ _ hF)
theorem c_X7_faultNow (l : Launch) (D : va_G) (cI cZ cV : ClassId) {B : RS → va_W} {ad : Nat → Nat} (hM : IsRef cI B ad) (S : RS) {r : Int32 × RS} (hF : f_X7_faultNow S = some r) : CTi l D (jtys cI cZ cV) yX7_faultNow cX7_faultNow 2 (some .int) rmX7_faultNow B [.ref (ad 7)] S r.1 r.2 := by
  refine CTi.of [(0, .ref (ad 7))] rfl (Nat.le_of_ble_eq_true rfl) (by decide) ⟨rfl, rfl⟩ (fun X e1 e2 e3 e4 e5 e6 e7 h hE => ?_)
  subst e1; subst e2; subst e3; subst e4; subst e5; subst e6
  exact k_X7_faultNow h hM e7 hE hF
abbrev rmX7_fault : Room := { frames := 4, cells := 0, slots := 0, locals := 84 }
theorem cw_X7_fault : CWv RX7 yX7_fault cX7_fault 1 (some .int) 0 := ⟨q4_234, q4_235, q1_8, q4_236, ⟨rfl, by decide +kernel, by decide +kernel, by decide +kernel⟩⟩
set_option maxHeartbeats 4000000 in
set_option maxRecDepth 100000 in
theorem k_X7_fault {X : JX RS} {ad : Nat → Nat} (h : OK X RX7 cX7_fault rmX7_fault) (hM : IsRef X.cI X.B ad) (hnL : X.nL = 1) {res : Int32 × RS} {S : RS} (hE : EXi X cX7_fault res.1 res.2) (hF : f_X7_fault S = some res) : J X 0 [(0, .ref (ad 7))] [] S := by
  rw [f_X7_fault] at hF
  refine j_aload_n h 0 rfl rfl dX7_fault_0 ?_
  obtain ⟨r_1, hr_1, hF⟩ := bind_row hF
  refine j_callVi h (st := []) (S' := r_1.2) (c_X7_faultNow X.l X.D X.cI X.cZ X.cV hM S hr_1) rfl rfl q4_237 cw_X7_faultNow hM.2.1.o rfl rfl rfl ⟨rfl, rfl, Nat.le_of_ble_eq_true rfl, Nat.le_of_ble_eq_true rfl⟩ _ rfl (Nat.le_of_ble_eq_true rfl) dX7_fault_1 ?_
  cases hF
  exact hE _ _ dX7_fault_4
theorem c_X7_fault (l : Launch) (D : va_G) (cI cZ cV : ClassId) {B : RS → va_W} {ad : Nat → Nat} (hM : IsRef cI B ad) (S : RS) {r : Int32 × RS} (hF : f_X7_fault S = some r) : CTi l D (jtys cI cZ cV) yX7_fault cX7_fault 1 (some .int) rmX7_fault B [.ref (ad 7)] S r.1 r.2 := by
  refine CTi.of [(0, .ref (ad 7))] rfl (Nat.le_of_ble_eq_true rfl) (by decide) ⟨rfl, rfl⟩ (fun X e1 e2 e3 e4 e5 e6 e7 h hE => ?_)
  subst e1; subst e2; subst e3; subst e4; subst e5; subst e6
  exact k_X7_fault h hM e7 hE hF
abbrev rmX7_load : Room := { frames := 4, cells := 0, slots := 0, locals := 84 }
theorem cw_X7_load : CWv RX7 yX7_load cX7_load 2 (some .int) 0 := ⟨q5_26, q5_27, q1_8, q5_28, ⟨rfl, by decide +kernel, by decide +kernel, by decide +kernel⟩⟩
set_option maxHeartbeats 4000000 in
set_option maxRecDepth 100000 in
theorem k_X7_load_22 {X : JX RS} {ad : Nat → Nat} (h : OK X RX7 cX7_load rmX7_load) (hM : IsRef X.cI X.B ad) (hnL : X.nL = 2) {res : Int32 × RS} (hE : EXi X cX7_load res.1 res.2) : ∀ (n : Nat) (x1 : Int32) (S : RS), f_X7_load_22 n x1 S = some res → J X 22 [(0, .ref (ad 7)), (1, .int x1)] [] S := by
  intro n
  induction n with
  | zero =>
    intro x1 S hF
    rw [f_X7_load_22] at hF
    cases hF
  | succ n ih =>
    intro x1 S hF
    rw [f_X7_load_22] at hF
    refine j_iload_n h 1 rfl rfl dX7_load_22 ?_
    refine j_aload_n h 0 rfl rfl dX7_load_23 ?_
    refine j_get h hM.2.1.o inX7 rfl 10 (by decide) rfl q4_34 rfl dX7_load_24 ?_
    refine j_icmp_ge h 51 (by decide) dX7_load_27 hF (fun hF => ?_) (fun hF => ?_)
    · refine j_aload_n h 0 rfl rfl dX7_load_51 ?_
      refine j_get h hM.2.1.o inX7 rfl 0 (by decide) rfl q4_24 rfl dX7_load_52 ?_
      refine j_sipush h (v := 175) (by decide) dX7_load_55 ?_
      refine j_aload_n h 0 rfl rfl dX7_load_58 ?_
      refine j_get h hM.2.1.o inX7 rfl 10 (by decide) rfl q4_34 rfl dX7_load_59 ?_
      obtain ⟨hb_4, hF⟩ := bnd_row hF
      refine ja_iast h (get := fun S => S.1) (put := setR) (hM.1 0 (by decide)) hb_4 dX7_load_62 ?_
      refine j_letS hF (fun S_5 hF => ?_)
      refine j_aload_n h 0 rfl rfl dX7_load_63 ?_
      refine j_iconst h (v := 0) (by decide) dX7_load_64 ?_
      refine j_put h (hM.2.2.2.1) inX7 tyX7_ok nmX7 rfl (by decide) rfl q4_30 (Nat.le_of_ble_eq_true rfl) dX7_load_65 ?_
      refine j_letS hF (fun S_6 hF => ?_)
      refine j_aload_n h 0 rfl rfl dX7_load_68 ?_
      refine j_get h hM.2.1.o inX7 rfl 10 (by decide) rfl q4_34 rfl dX7_load_69 ?_
      cases hF
      exact hE _ _ dX7_load_72
    · refine j_aload_n h 0 rfl rfl dX7_load_30 ?_
      refine j_get h hM.2.1.o inX7 rfl 0 (by decide) rfl q4_24 rfl dX7_load_31 ?_
      refine j_bipush h (v := 124) (by decide) dX7_load_34 ?_
      refine j_iload_n h 1 rfl rfl dX7_load_36 ?_
      refine j_iadd h dX7_load_37 ?_
      refine j_aload_n h 0 rfl rfl dX7_load_38 ?_
      refine j_get h hM.2.1.o inX7 rfl 9 (by decide) rfl q4_33 rfl dX7_load_39 ?_
      refine j_iload_n h 1 rfl rfl dX7_load_42 ?_
      obtain ⟨hb_7, hF⟩ := bnd_row hF
      refine ja_iald h (get := fun S => S.1) (put := setR) (hM.1 6 (by decide)) hb_7 dX7_load_43 ?_
      obtain ⟨hb_8, hF⟩ := bnd_row hF
      refine ja_iast h (get := fun S => S.1) (put := setR) (hM.1 0 (by decide)) hb_8 dX7_load_44 ?_
      refine j_letS hF (fun S_9 hF => ?_)
      refine j_iincL hF (fun x_10 ex_10 hF => ?_)
      refine j_iinc h hnL 1 [(1, .int x_10), (0, .ref (ad 7))] rfl ex_10 (by decide) (by decide) rfl dX7_load_45 ?_
      refine j_goto h 22 (by decide) dX7_load_48 ?_
      exact j_sub [1, 0] rfl (ih _ _ hF)
set_option maxHeartbeats 4000000 in
set_option maxRecDepth 100000 in
theorem k_X7_load {X : JX RS} {ad : Nat → Nat} (h : OK X RX7 cX7_load rmX7_load) (hM : IsRef X.cI X.B ad) (hnL : X.nL = 2) {res : Int32 × RS} {S : RS} (hE : EXi X cX7_load res.1 res.2) (hF : f_X7_load S = some res) : J X 0 [(0, .ref (ad 7))] [] S := by
  rw [f_X7_load] at hF
  refine j_aload_n h 0 rfl rfl dX7_load_0 ?_
  obtain ⟨r_1, hr_1, hF⟩ := bind_row hF
  refine j_callVi h (st := []) (S' := r_1.2) (c_X7_faultNow X.l X.D X.cI X.cZ X.cV hM S hr_1) rfl rfl q4_237 cw_X7_faultNow hM.2.1.o rfl rfl rfl ⟨rfl, rfl, Nat.le_of_ble_eq_true rfl, Nat.le_of_ble_eq_true rfl⟩ _ rfl (Nat.le_of_ble_eq_true rfl) dX7_load_1 ?_
  refine j_ldc h (v := -1000001) q4_162 dX7_load_4 ?_
  refine j_icmp_eq h 12 (by decide) dX7_load_6 hF (fun hF => ?_) (fun hF => ?_)
  · refine j_aload_n h 0 rfl rfl dX7_load_12 ?_
    obtain ⟨r_2, hr_2, hF⟩ := bind_row hF
    refine j_callVv h (st := []) (S' := r_2) (c_X7_record X.l X.D X.cI X.cZ X.cV hM r_1.2 hr_2) rfl rfl q4_82 cw_X7_record hM.2.1.o rfl rfl rfl ⟨rfl, rfl, Nat.le_of_ble_eq_true rfl, Nat.le_of_ble_eq_true rfl⟩ _ rfl (Nat.le_of_ble_eq_true rfl) dX7_load_13 ?_
    refine j_aload_n h 0 rfl rfl dX7_load_16 ?_
    obtain ⟨r_3, hr_3, hF⟩ := bind_row hF
    refine j_callVv h (st := []) (S' := r_3) (c_X7_endItem X.l X.D X.cI X.cZ X.cV hM r_2 hr_3) rfl rfl q5_13 cw_X7_endItem hM.2.1.o rfl rfl rfl ⟨rfl, rfl, Nat.le_of_ble_eq_true rfl, Nat.le_of_ble_eq_true rfl⟩ _ rfl (Nat.le_of_ble_eq_true rfl) dX7_load_17 ?_
    refine j_iconst h (v := 0) (by decide) dX7_load_20 ?_
    refine j_istore_n h hnL [(1, .int (0 : Int32)), (0, .ref (ad 7))] rfl (by decide) rfl dX7_load_21 ?_
    exact j_sub [1, 0] rfl (k_X7_load_22 h hM hnL hE fuel _ _ hF)
  · refine j_ldc h (v := -1000003) q4_117 dX7_load_9 ?_
    cases hF
    exact hE _ _ dX7_load_11
theorem c_X7_load (l : Launch) (D : va_G) (cI cZ cV : ClassId) {B : RS → va_W} {ad : Nat → Nat} (hM : IsRef cI B ad) (S : RS) {r : Int32 × RS} (hF : f_X7_load S = some r) : CTi l D (jtys cI cZ cV) yX7_load cX7_load 2 (some .int) rmX7_load B [.ref (ad 7)] S r.1 r.2 := by
  refine CTi.of [(0, .ref (ad 7))] rfl (Nat.le_of_ble_eq_true rfl) (by decide) ⟨rfl, rfl⟩ (fun X e1 e2 e3 e4 e5 e6 e7 h hE => ?_)
  subst e1; subst e2; subst e3; subst e4; subst e5; subst e6
  exact k_X7_load h hM e7 hE hF
abbrev rmX7_undo : Room := { frames := 1, cells := 0, slots := 0, locals := 25 }
theorem cw_X7_undo : CWv RX7 yX7_undo cX7_undo 1 (some .int) 0 := ⟨q5_30, q5_31, q1_8, q5_32, ⟨rfl, by decide +kernel, by decide +kernel, by decide +kernel⟩⟩
set_option maxHeartbeats 4000000 in
set_option maxRecDepth 100000 in
theorem k_X7_undo {X : JX RS} {ad : Nat → Nat} (h : OK X RX7 cX7_undo rmX7_undo) (hM : IsRef X.cI X.B ad) (hnL : X.nL = 1) {res : Int32 × RS} {S : RS} (hE : EXi X cX7_undo res.1 res.2) (hF : f_X7_undo S = some res) : J X 0 [(0, .ref (ad 7))] [] S := by
  rw [f_X7_undo] at hF
  refine j_aload_n h 0 rfl rfl dX7_undo_0 ?_
  refine j_get h hM.2.1.o inX7 rfl 2 (by decide) rfl q4_26 rfl dX7_undo_1 ?_
  refine j_if_ne h 10 (by decide) dX7_undo_4 hF (fun hF => ?_) (fun hF => ?_)
  · refine j_ldc h (v := -1000003) q4_117 dX7_undo_7 ?_
    cases hF
    exact hE _ _ dX7_undo_9
  · refine j_aload_n h 0 rfl rfl dX7_undo_10 ?_
    refine j_dup h rfl dX7_undo_11 ?_
    refine j_get h hM.2.1.o inX7 rfl 2 (by decide) rfl q4_26 rfl dX7_undo_12 ?_
    refine j_iconst h (v := 1) (by decide) dX7_undo_15 ?_
    refine j_isub h dX7_undo_16 ?_
    refine j_put h (hM.2.1) inX7 tyX7_ok nmX7 rfl (by decide) rfl q4_26 (Nat.le_of_ble_eq_true rfl) dX7_undo_17 ?_
    refine j_letS hF (fun S_1 hF => ?_)
    refine j_aload_n h 0 rfl rfl dX7_undo_20 ?_
    refine j_aload_n h 0 rfl rfl dX7_undo_21 ?_
    refine j_get h hM.2.1.o inX7 rfl 3 (by decide) rfl q4_27 rfl dX7_undo_22 ?_
    refine j_sipush h (v := 198) (by decide) dX7_undo_25 ?_
    refine j_aload_n h 0 rfl rfl dX7_undo_28 ?_
    refine j_get h hM.2.1.o inX7 rfl 2 (by decide) rfl q4_26 rfl dX7_undo_29 ?_
    refine j_imul h dX7_undo_32 ?_
    refine j_aload_n h 0 rfl rfl dX7_undo_33 ?_
    refine j_get h hM.2.1.o inX7 rfl 0 (by decide) rfl q4_24 rfl dX7_undo_34 ?_
    refine j_iconst h (v := 0) (by decide) dX7_undo_37 ?_
    obtain ⟨r_2, hr_2, hF⟩ := bind_row hF
    refine j_callVv h (st := []) (S' := r_2) (c_X7_copy X.l X.D X.cI X.cZ X.cV hM (by decide) (by decide) S_1 ((198 : Int32) * (S_1.1 7 0)) (0 : Int32) hr_2) rfl rfl q4_86 cw_X7_copy hM.2.1.o rfl rfl rfl ⟨rfl, rfl, Nat.le_of_ble_eq_true rfl, Nat.le_of_ble_eq_true rfl⟩ _ rfl (Nat.le_of_ble_eq_true rfl) dX7_undo_38 ?_
    refine j_aload_n h 0 rfl rfl dX7_undo_41 ?_
    refine j_get h hM.2.1.o inX7 rfl 2 (by decide) rfl q4_26 rfl dX7_undo_42 ?_
    cases hF
    exact hE _ _ dX7_undo_45
theorem c_X7_undo (l : Launch) (D : va_G) (cI cZ cV : ClassId) {B : RS → va_W} {ad : Nat → Nat} (hM : IsRef cI B ad) (S : RS) {r : Int32 × RS} (hF : f_X7_undo S = some r) : CTi l D (jtys cI cZ cV) yX7_undo cX7_undo 1 (some .int) rmX7_undo B [.ref (ad 7)] S r.1 r.2 := by
  refine CTi.of [(0, .ref (ad 7))] rfl (Nat.le_of_ble_eq_true rfl) (by decide) ⟨rfl, rfl⟩ (fun X e1 e2 e3 e4 e5 e6 e7 h hE => ?_)
  subst e1; subst e2; subst e3; subst e4; subst e5; subst e6
  exact k_X7_undo h hM e7 hE hF
abbrev rmX7_keep : Room := { frames := 1, cells := 0, slots := 0, locals := 25 }
theorem cw_X7_keep : CWv RX7 yX7_keep cX7_keep 2 (some .int) 1 := ⟨q5_34, q5_35, q1_8, q5_36, ⟨rfl, by decide +kernel, by decide +kernel, by decide +kernel⟩⟩
set_option maxHeartbeats 4000000 in
set_option maxRecDepth 100000 in
theorem k_X7_keep {X : JX RS} {ad : Nat → Nat} (h : OK X RX7 cX7_keep rmX7_keep) (hM : IsRef X.cI X.B ad) (hnL : X.nL = 2) {res : Int32 × RS} {S : RS} {p1 : Int32} (hE : EXi X cX7_keep res.1 res.2) (hF : f_X7_keep S p1 = some res) : J X 0 [(0, .ref (ad 7)), (1, .int p1)] [] S := by
  rw [f_X7_keep] at hF
  refine j_iload_n h 1 rfl rfl dX7_keep_0 ?_
  refine j_iconst h (v := 0) (by decide) dX7_keep_1 ?_
  refine j_iconst h (v := 1) (by decide) dX7_keep_2 ?_
  obtain ⟨r_1, hr_1, hF⟩ := bind_row hF
  refine j_callSz h (st := []) (S' := S) (c_X7_within X.l X.D X.cI X.cZ X.cV (B := X.B) S p1 (0 : Int32) (1 : Int32) hr_1) rfl rfl q4_77 cw_X7_within rfl ⟨rfl, rfl, Nat.le_of_ble_eq_true rfl, Nat.le_of_ble_eq_true rfl⟩ _ rfl (Nat.le_of_ble_eq_true rfl) dX7_keep_3 (fun hz_r_1 => ?_)
  refine j_if_ne h 12 (by decide) dX7_keep_6 hF (fun hF => ?_) (fun hF => ?_)
  · refine j_ldc h (v := -1000002) q4_80 dX7_keep_9 ?_
    cases hF
    exact hE _ _ dX7_keep_11
  · refine j_aload_n h 0 rfl rfl dX7_keep_12 ?_
    refine j_aload_n h 0 rfl rfl dX7_keep_13 ?_
    refine j_get h hM.2.1.o inX7 rfl 0 (by decide) rfl q4_24 rfl dX7_keep_14 ?_
    refine j_iconst h (v := 0) (by decide) dX7_keep_17 ?_
    refine j_aload_n h 0 rfl rfl dX7_keep_18 ?_
    refine j_get h hM.2.1.o inX7 rfl 5 (by decide) rfl q4_29 rfl dX7_keep_19 ?_
    refine j_sipush h (v := 198) (by decide) dX7_keep_22 ?_
    refine j_iload_n h 1 rfl rfl dX7_keep_25 ?_
    refine j_imul h dX7_keep_26 ?_
    obtain ⟨r_2, hr_2, hF⟩ := bind_row hF
    refine j_callVv h (st := []) (S' := r_2) (c_X7_copy X.l X.D X.cI X.cZ X.cV hM (by decide) (by decide) S (0 : Int32) ((198 : Int32) * p1) hr_2) rfl rfl q4_86 cw_X7_copy hM.2.1.o rfl rfl rfl ⟨rfl, rfl, Nat.le_of_ble_eq_true rfl, Nat.le_of_ble_eq_true rfl⟩ _ rfl (Nat.le_of_ble_eq_true rfl) dX7_keep_27 ?_
    refine j_aload_n h 0 rfl rfl dX7_keep_30 ?_
    refine j_dup h rfl dX7_keep_31 ?_
    refine j_get h hM.2.1.o inX7 rfl 4 (by decide) rfl q4_28 rfl dX7_keep_32 ?_
    refine j_iconst h (v := 1) (by decide) dX7_keep_35 ?_
    refine j_iload_n h 1 rfl rfl dX7_keep_36 ?_
    refine j_ishl h dX7_keep_37 ?_
    refine j_ior h dX7_keep_38 ?_
    refine j_put h (hM.2.2.1) inX7 tyX7_ok nmX7 rfl (by decide) rfl q4_28 (Nat.le_of_ble_eq_true rfl) dX7_keep_39 ?_
    refine j_letS hF (fun S_3 hF => ?_)
    refine j_aload_n h 0 rfl rfl dX7_keep_42 ?_
    refine j_get h hM.2.1.o inX7 rfl 0 (by decide) rfl q4_24 rfl dX7_keep_43 ?_
    refine j_sipush h (v := 174) (by decide) dX7_keep_46 ?_
    obtain ⟨hb_4, hF⟩ := bnd_row hF
    refine ja_iald h (get := fun S => S.1) (put := setR) (hM.1 0 (by decide)) hb_4 dX7_keep_49 ?_
    cases hF
    exact hE _ _ dX7_keep_50
theorem c_X7_keep (l : Launch) (D : va_G) (cI cZ cV : ClassId) {B : RS → va_W} {ad : Nat → Nat} (hM : IsRef cI B ad) (S : RS) (p1 : Int32) {r : Int32 × RS} (hF : f_X7_keep S p1 = some r) : CTi l D (jtys cI cZ cV) yX7_keep cX7_keep 2 (some .int) rmX7_keep B [.ref (ad 7), .int p1] S r.1 r.2 := by
  refine CTi.of [(0, .ref (ad 7)), (1, .int p1)] rfl (Nat.le_of_ble_eq_true rfl) (by decide) ⟨rfl, rfl⟩ (fun X e1 e2 e3 e4 e5 e6 e7 h hE => ?_)
  subst e1; subst e2; subst e3; subst e4; subst e5; subst e6
  exact k_X7_keep h hM e7 hE hF
abbrev rmX7_back : Room := { frames := 2, cells := 0, slots := 0, locals := 46 }
theorem cw_X7_back : CWv RX7 yX7_back cX7_back 2 (some .int) 1 := ⟨q5_38, q5_39, q1_8, q5_40, ⟨rfl, by decide +kernel, by decide +kernel, by decide +kernel⟩⟩
set_option maxHeartbeats 4000000 in
set_option maxRecDepth 100000 in
theorem k_X7_back {X : JX RS} {ad : Nat → Nat} (h : OK X RX7 cX7_back rmX7_back) (hM : IsRef X.cI X.B ad) (hnL : X.nL = 2) {res : Int32 × RS} {S : RS} {p1 : Int32} (hE : EXi X cX7_back res.1 res.2) (hF : f_X7_back S p1 = some res) : J X 0 [(0, .ref (ad 7)), (1, .int p1)] [] S := by
  rw [f_X7_back] at hF
  refine j_iload_n h 1 rfl rfl dX7_back_0 ?_
  refine j_iconst h (v := 0) (by decide) dX7_back_1 ?_
  refine j_iconst h (v := 1) (by decide) dX7_back_2 ?_
  obtain ⟨r_1, hr_1, hF⟩ := bind_row hF
  refine j_callSz h (st := []) (S' := S) (c_X7_within X.l X.D X.cI X.cZ X.cV (B := X.B) S p1 (0 : Int32) (1 : Int32) hr_1) rfl rfl q4_77 cw_X7_within rfl ⟨rfl, rfl, Nat.le_of_ble_eq_true rfl, Nat.le_of_ble_eq_true rfl⟩ _ rfl (Nat.le_of_ble_eq_true rfl) dX7_back_3 (fun hz_r_1 => ?_)
  refine j_if_ne h 12 (by decide) dX7_back_6 hF (fun hF => ?_) (fun hF => ?_)
  · refine j_ldc h (v := -1000002) q4_80 dX7_back_9 ?_
    cases hF
    exact hE _ _ dX7_back_11
  · refine j_aload_n h 0 rfl rfl dX7_back_12 ?_
    refine j_get h hM.2.1.o inX7 rfl 4 (by decide) rfl q4_28 rfl dX7_back_13 ?_
    refine j_iload_n h 1 rfl rfl dX7_back_16 ?_
    refine j_ishr h dX7_back_17 ?_
    refine j_iconst h (v := 1) (by decide) dX7_back_18 ?_
    refine j_iand h dX7_back_19 ?_
    refine j_if_ne h 26 (by decide) dX7_back_20 hF (fun hF => ?_) (fun hF => ?_)
    · refine j_ldc h (v := -1000003) q4_117 dX7_back_23 ?_
      cases hF
      exact hE _ _ dX7_back_25
    · refine j_aload_n h 0 rfl rfl dX7_back_26 ?_
      obtain ⟨r_2, hr_2, hF⟩ := bind_row hF
      refine j_callVv h (st := []) (S' := r_2) (c_X7_record X.l X.D X.cI X.cZ X.cV hM S hr_2) rfl rfl q4_82 cw_X7_record hM.2.1.o rfl rfl rfl ⟨rfl, rfl, Nat.le_of_ble_eq_true rfl, Nat.le_of_ble_eq_true rfl⟩ _ rfl (Nat.le_of_ble_eq_true rfl) dX7_back_27 ?_
      refine j_aload_n h 0 rfl rfl dX7_back_30 ?_
      refine j_aload_n h 0 rfl rfl dX7_back_31 ?_
      refine j_get h hM.2.1.o inX7 rfl 5 (by decide) rfl q4_29 rfl dX7_back_32 ?_
      refine j_sipush h (v := 198) (by decide) dX7_back_35 ?_
      refine j_iload_n h 1 rfl rfl dX7_back_38 ?_
      refine j_imul h dX7_back_39 ?_
      refine j_aload_n h 0 rfl rfl dX7_back_40 ?_
      refine j_get h hM.2.1.o inX7 rfl 0 (by decide) rfl q4_24 rfl dX7_back_41 ?_
      refine j_iconst h (v := 0) (by decide) dX7_back_44 ?_
      obtain ⟨r_3, hr_3, hF⟩ := bind_row hF
      refine j_callVv h (st := []) (S' := r_3) (c_X7_copy X.l X.D X.cI X.cZ X.cV hM (by decide) (by decide) r_2 ((198 : Int32) * p1) (0 : Int32) hr_3) rfl rfl q4_86 cw_X7_copy hM.2.1.o rfl rfl rfl ⟨rfl, rfl, Nat.le_of_ble_eq_true rfl, Nat.le_of_ble_eq_true rfl⟩ _ rfl (Nat.le_of_ble_eq_true rfl) dX7_back_45 ?_
      refine j_aload_n h 0 rfl rfl dX7_back_48 ?_
      refine j_get h hM.2.1.o inX7 rfl 0 (by decide) rfl q4_24 rfl dX7_back_49 ?_
      refine j_sipush h (v := 174) (by decide) dX7_back_52 ?_
      obtain ⟨hb_4, hF⟩ := bnd_row hF
      refine ja_iald h (get := fun S => S.1) (put := setR) (hM.1 0 (by decide)) hb_4 dX7_back_55 ?_
      cases hF
      exact hE _ _ dX7_back_56
theorem c_X7_back (l : Launch) (D : va_G) (cI cZ cV : ClassId) {B : RS → va_W} {ad : Nat → Nat} (hM : IsRef cI B ad) (S : RS) (p1 : Int32) {r : Int32 × RS} (hF : f_X7_back S p1 = some r) : CTi l D (jtys cI cZ cV) yX7_back cX7_back 2 (some .int) rmX7_back B [.ref (ad 7), .int p1] S r.1 r.2 := by
  refine CTi.of [(0, .ref (ad 7)), (1, .int p1)] rfl (Nat.le_of_ble_eq_true rfl) (by decide) ⟨rfl, rfl⟩ (fun X e1 e2 e3 e4 e5 e6 e7 h hE => ?_)
  subst e1; subst e2; subst e3; subst e4; subst e5; subst e6
  exact k_X7_back h hM e7 hE hF
abbrev rmX7_houseNow : Room := { frames := 2, cells := 0, slots := 0, locals := 46 }
theorem cw_X7_houseNow : CWv RX7 yX7_houseNow cX7_houseNow 3 (some .int) 2 := ⟨q5_47, qs59, q1_8, q5_48, ⟨rfl, by decide +kernel, by decide +kernel, by decide +kernel⟩⟩
set_option maxHeartbeats 4000000 in
set_option maxRecDepth 100000 in
theorem k_X7_houseNow_56 {X : JX RS} {ad : Nat → Nat} (h : OK X RX7 cX7_houseNow rmX7_houseNow) (hM : IsRef X.cI X.B ad) (hnL : X.nL = 3) {res : Int32} {S : RS} {x1 : Int32} {x2 : Int32} (hE : EXi X cX7_houseNow res S) (hF : f_X7_houseNow_56 S x1 x2 = some res) : J X 56 [(0, .ref (ad 7)), (1, .int x1), (2, .int x2)] [] S := by
  rw [f_X7_houseNow_56] at hF
  refine j_aload_n h 0 rfl rfl dX7_houseNow_56 ?_
  refine j_iload_n h 1 rfl rfl dX7_houseNow_57 ?_
  refine j_iload_n h 2 rfl rfl dX7_houseNow_58 ?_
  obtain ⟨r_2, hr_2, hF⟩ := bind_row hF
  refine j_callVi h (st := []) (S' := S) (c_X7_of X.l X.D X.cI X.cZ X.cV hM S x1 x2 hr_2) rfl rfl q4_101 cw_X7_of hM.2.1.o rfl rfl rfl ⟨rfl, rfl, Nat.le_of_ble_eq_true rfl, Nat.le_of_ble_eq_true rfl⟩ _ rfl (Nat.le_of_ble_eq_true rfl) dX7_houseNow_59 ?_
  cases hF
  exact hE _ _ dX7_houseNow_62
set_option maxHeartbeats 4000000 in
set_option maxRecDepth 100000 in
theorem k_X7_houseNow_69 {X : JX RS} {ad : Nat → Nat} (h : OK X RX7 cX7_houseNow rmX7_houseNow) (hM : IsRef X.cI X.B ad) (hnL : X.nL = 3) {res : Int32} {S : RS} {x1 : Int32} {x2 : Int32} (hE : EXi X cX7_houseNow res S) (hF : f_X7_houseNow_69 S x1 x2 = some res) : J X 69 [(0, .ref (ad 7)), (1, .int x1), (2, .int x2)] [] S := by
  rw [f_X7_houseNow_69] at hF
  refine j_aload_n h 0 rfl rfl dX7_houseNow_69 ?_
  refine j_iload_n h 1 rfl rfl dX7_houseNow_70 ?_
  refine j_iload_n h 2 rfl rfl dX7_houseNow_71 ?_
  refine j_iconst h (v := 1) (by decide) dX7_houseNow_72 ?_
  refine j_isub h dX7_houseNow_73 ?_
  obtain ⟨r_10, hr_10, hF⟩ := bind_row hF
  refine j_callVi h (st := []) (S' := S) (c_X7_of X.l X.D X.cI X.cZ X.cV hM S x1 (x2 - (1 : Int32)) hr_10) rfl rfl q4_101 cw_X7_of hM.2.1.o rfl rfl rfl ⟨rfl, rfl, Nat.le_of_ble_eq_true rfl, Nat.le_of_ble_eq_true rfl⟩ _ rfl (Nat.le_of_ble_eq_true rfl) dX7_houseNow_74 ?_
  cases hF
  exact hE _ _ dX7_houseNow_77
set_option maxHeartbeats 4000000 in
set_option maxRecDepth 100000 in
theorem k_X7_houseNow {X : JX RS} {ad : Nat → Nat} (h : OK X RX7 cX7_houseNow rmX7_houseNow) (hM : IsRef X.cI X.B ad) (hnL : X.nL = 3) {res : Int32} {S : RS} {p1 : Int32} {p2 : Int32} (hE : EXi X cX7_houseNow res S) (hF : f_X7_houseNow S p1 p2 = some res) : J X 0 [(0, .ref (ad 7)), (1, .int p1), (2, .int p2)] [] S := by
  rw [f_X7_houseNow] at hF
  refine j_iload_n h 2 rfl rfl dX7_houseNow_0 ?_
  refine j_case hF (fun g_1 hF => ?_) (fun g_1 hF => ?_)
  · refine j_tableIn h (55) 56 0 g_1 (by decide) (by decide) (by decide) (by decide) dX7_houseNow_1 ?_
    exact j_sub [0, 1, 2] rfl (k_X7_houseNow_56 h hM hnL hE hF)
  · have g_1 := sw_ne g_1 (n := 0) (by decide)
    refine j_case hF (fun g_3 hF => ?_) (fun g_3 hF => ?_)
    · refine j_tableIn h (55) 56 1 g_3 (by decide) (by decide) (by decide) (by decide) dX7_houseNow_1 ?_
      exact j_sub [0, 1, 2] rfl (k_X7_houseNow_56 h hM hnL hE hF)
    · have g_3 := sw_ne g_3 (n := 1) (by decide)
      refine j_case hF (fun g_4 hF => ?_) (fun g_4 hF => ?_)
      · refine j_tableIn h (55) 56 2 g_4 (by decide) (by decide) (by decide) (by decide) dX7_houseNow_1 ?_
        exact j_sub [0, 1, 2] rfl (k_X7_houseNow_56 h hM hnL hE hF)
      · have g_4 := sw_ne g_4 (n := 2) (by decide)
        refine j_case hF (fun g_5 hF => ?_) (fun g_5 hF => ?_)
        · refine j_tableIn h (55) 56 3 g_5 (by decide) (by decide) (by decide) (by decide) dX7_houseNow_1 ?_
          exact j_sub [0, 1, 2] rfl (k_X7_houseNow_56 h hM hnL hE hF)
        · have g_5 := sw_ne g_5 (n := 3) (by decide)
          refine j_case hF (fun g_6 hF => ?_) (fun g_6 hF => ?_)
          · refine j_tableIn h (55) 56 4 g_6 (by decide) (by decide) (by decide) (by decide) dX7_houseNow_1 ?_
            exact j_sub [0, 1, 2] rfl (k_X7_houseNow_56 h hM hnL hE hF)
          · have g_6 := sw_ne g_6 (n := 4) (by decide)
            refine j_case hF (fun g_7 hF => ?_) (fun g_7 hF => ?_)
            · refine j_tableIn h (62) 63 5 g_7 (by decide) (by decide) (by decide) (by decide) dX7_houseNow_1 ?_
              refine j_aload_n h 0 rfl rfl dX7_houseNow_63 ?_
              refine j_iload_n h 1 rfl rfl dX7_houseNow_64 ?_
              obtain ⟨r_8, hr_8, hF⟩ := bind_row hF
              refine j_callVi h (st := []) (S' := S) (c_X7_canDraw X.l X.D X.cI X.cZ X.cV hM S p1 hr_8) rfl rfl q4_197 cw_X7_canDraw hM.2.1.o rfl rfl rfl ⟨rfl, rfl, Nat.le_of_ble_eq_true rfl, Nat.le_of_ble_eq_true rfl⟩ _ rfl (Nat.le_of_ble_eq_true rfl) dX7_houseNow_65 ?_
              cases hF
              exact hE _ _ dX7_houseNow_68
            · have g_7 := sw_ne g_7 (n := 5) (by decide)
              refine j_case hF (fun g_9 hF => ?_) (fun g_9 hF => ?_)
              · refine j_tableIn h (68) 69 6 g_9 (by decide) (by decide) (by decide) (by decide) dX7_houseNow_1 ?_
                exact j_sub [0, 1, 2] rfl (k_X7_houseNow_69 h hM hnL hE hF)
              · have g_9 := sw_ne g_9 (n := 6) (by decide)
                refine j_case hF (fun g_11 hF => ?_) (fun g_11 hF => ?_)
                · refine j_tableIn h (68) 69 7 g_11 (by decide) (by decide) (by decide) (by decide) dX7_houseNow_1 ?_
                  exact j_sub [0, 1, 2] rfl (k_X7_houseNow_69 h hM hnL hE hF)
                · have g_11 := sw_ne g_11 (n := 7) (by decide)
                  refine j_case hF (fun g_12 hF => ?_) (fun g_12 hF => ?_)
                  · refine j_tableIn h (68) 69 8 g_12 (by decide) (by decide) (by decide) (by decide) dX7_houseNow_1 ?_
                    exact j_sub [0, 1, 2] rfl (k_X7_houseNow_69 h hM hnL hE hF)
                  · have g_12 := sw_ne g_12 (n := 8) (by decide)
                    refine j_case hF (fun g_13 hF => ?_) (fun g_13 hF => ?_)
                    · refine j_tableIn h (77) 78 9 g_13 (by decide) (by decide) (by decide) (by decide) dX7_houseNow_1 ?_
                      refine j_aload_n h 0 rfl rfl dX7_houseNow_78 ?_
                      refine j_iload_n h 1 rfl rfl dX7_houseNow_79 ?_
                      refine j_iconst h (v := 1) (by decide) dX7_houseNow_80 ?_
                      obtain ⟨r_14, hr_14, hF⟩ := bind_row hF
                      refine j_callVi h (st := []) (S' := S) (c_X7_owed X.l X.D X.cI X.cZ X.cV hM S p1 (1 : Int32) hr_14) rfl rfl q4_109 cw_X7_owed hM.2.1.o rfl rfl rfl ⟨rfl, rfl, Nat.le_of_ble_eq_true rfl, Nat.le_of_ble_eq_true rfl⟩ _ rfl (Nat.le_of_ble_eq_true rfl) dX7_houseNow_81 ?_
                      cases hF
                      exact hE _ _ dX7_houseNow_84
                    · have g_13 := sw_ne g_13 (n := 9) (by decide)
                      refine j_tableOut h 85 (by omega) (by decide) dX7_houseNow_1 ?_
                      refine j_aload_n h 0 rfl rfl dX7_houseNow_85 ?_
                      refine j_iload_n h 1 rfl rfl dX7_houseNow_86 ?_
                      refine j_iconst h (v := 0) (by decide) dX7_houseNow_87 ?_
                      obtain ⟨r_15, hr_15, hF⟩ := bind_row hF
                      refine j_callVi h (st := []) (S' := S) (c_X7_owed X.l X.D X.cI X.cZ X.cV hM S p1 (0 : Int32) hr_15) rfl rfl q4_109 cw_X7_owed hM.2.1.o rfl rfl rfl ⟨rfl, rfl, Nat.le_of_ble_eq_true rfl, Nat.le_of_ble_eq_true rfl⟩ _ rfl (Nat.le_of_ble_eq_true rfl) dX7_houseNow_88 ?_
                      cases hF
                      exact hE _ _ dX7_houseNow_91
theorem c_X7_houseNow (l : Launch) (D : va_G) (cI cZ cV : ClassId) {B : RS → va_W} {ad : Nat → Nat} (hM : IsRef cI B ad) (S : RS) (p1 : Int32) (p2 : Int32) {r : Int32} (hF : f_X7_houseNow S p1 p2 = some r) : CTi l D (jtys cI cZ cV) yX7_houseNow cX7_houseNow 3 (some .int) rmX7_houseNow B [.ref (ad 7), .int p1, .int p2] S r S := by
  refine CTi.of [(0, .ref (ad 7)), (1, .int p1), (2, .int p2)] rfl (Nat.le_of_ble_eq_true rfl) (by decide) ⟨rfl, rfl⟩ (fun X e1 e2 e3 e4 e5 e6 e7 h hE => ?_)
  subst e1; subst e2; subst e3; subst e4; subst e5; subst e6
  exact k_X7_houseNow h hM e7 hE hF
abbrev rmX7_house : Room := { frames := 3, cells := 0, slots := 0, locals := 68 }
theorem cw_X7_house : CWv RX7 yX7_house cX7_house 3 (some .int) 2 := ⟨q5_42, q5_43, q1_8, q5_44, ⟨rfl, by decide +kernel, by decide +kernel, by decide +kernel⟩⟩
set_option maxHeartbeats 4000000 in
set_option maxRecDepth 100000 in
theorem k_X7_house {X : JX RS} {ad : Nat → Nat} (h : OK X RX7 cX7_house rmX7_house) (hM : IsRef X.cI X.B ad) (hnL : X.nL = 3) {res : Int32} {S : RS} {p1 : Int32} {p2 : Int32} (hE : EXi X cX7_house res S) (hF : f_X7_house S p1 p2 = some res) : J X 0 [(0, .ref (ad 7)), (1, .int p1), (2, .int p2)] [] S := by
  rw [f_X7_house] at hF
  refine j_aload_n h 0 rfl rfl dX7_house_0 ?_
  refine j_iload_n h 1 rfl rfl dX7_house_1 ?_
  obtain ⟨r_1, hr_1, hF⟩ := bind_row hF
  refine j_callVz h (st := []) (S' := S) (c_X7_isHouse X.l X.D X.cI X.cZ X.cV hM S p1 hr_1) rfl rfl q4_94 cw_X7_isHouse hM.2.1.o rfl rfl rfl ⟨rfl, rfl, Nat.le_of_ble_eq_true rfl, Nat.le_of_ble_eq_true rfl⟩ _ rfl (Nat.le_of_ble_eq_true rfl) dX7_house_2 (fun hz_r_1 => ?_)
  refine j_if_eq h 27 (by decide) dX7_house_5 hF (fun hF => ?_) (fun hF => ?_)
  · refine j_ldc h (v := -1000002) q4_80 dX7_house_27 ?_
    cases hF
    exact hE _ _ dX7_house_29
  · refine j_iload_n h 2 rfl rfl dX7_house_8 ?_
    refine j_iconst h (v := 0) (by decide) dX7_house_9 ?_
    refine j_bipush h (v := 10) (by decide) dX7_house_10 ?_
    obtain ⟨r_2, hr_2, hF⟩ := bind_row hF
    refine j_callSz h (st := []) (S' := S) (c_X7_within X.l X.D X.cI X.cZ X.cV (B := X.B) S p2 (0 : Int32) (10 : Int32) hr_2) rfl rfl q4_77 cw_X7_within rfl ⟨rfl, rfl, Nat.le_of_ble_eq_true rfl, Nat.le_of_ble_eq_true rfl⟩ _ rfl (Nat.le_of_ble_eq_true rfl) dX7_house_12 (fun hz_r_2 => ?_)
    refine j_if_eq h 27 (by decide) dX7_house_15 hF (fun hF => ?_) (fun hF => ?_)
    · refine j_ldc h (v := -1000002) q4_80 dX7_house_27 ?_
      cases hF
      exact hE _ _ dX7_house_29
    · refine j_aload_n h 0 rfl rfl dX7_house_18 ?_
      refine j_iload_n h 1 rfl rfl dX7_house_19 ?_
      refine j_iload_n h 2 rfl rfl dX7_house_20 ?_
      obtain ⟨r_3, hr_3, hF⟩ := bind_row hF
      refine j_callVi h (st := []) (S' := S) (c_X7_houseNow X.l X.D X.cI X.cZ X.cV hM S p1 p2 hr_3) rfl rfl q5_45 cw_X7_houseNow hM.2.1.o rfl rfl rfl ⟨rfl, rfl, Nat.le_of_ble_eq_true rfl, Nat.le_of_ble_eq_true rfl⟩ _ rfl (Nat.le_of_ble_eq_true rfl) dX7_house_21 ?_
      refine j_goto h 29 (by decide) dX7_house_24 ?_
      cases hF
      exact hE _ _ dX7_house_29
theorem c_X7_house (l : Launch) (D : va_G) (cI cZ cV : ClassId) {B : RS → va_W} {ad : Nat → Nat} (hM : IsRef cI B ad) (S : RS) (p1 : Int32) (p2 : Int32) {r : Int32} (hF : f_X7_house S p1 p2 = some r) : CTi l D (jtys cI cZ cV) yX7_house cX7_house 3 (some .int) rmX7_house B [.ref (ad 7), .int p1, .int p2] S r S := by
  refine CTi.of [(0, .ref (ad 7)), (1, .int p1), (2, .int p2)] rfl (Nat.le_of_ble_eq_true rfl) (by decide) ⟨rfl, rfl⟩ (fun X e1 e2 e3 e4 e5 e6 e7 h hE => ?_)
  subst e1; subst e2; subst e3; subst e4; subst e5; subst e6
  exact k_X7_house h hM e7 hE hF
abbrev rmX7_loan : Room := { frames := 2, cells := 0, slots := 0, locals := 43 }
theorem cw_X7_loan : CWv RX7 yX7_loan cX7_loan 3 (some .int) 2 := ⟨q5_50, q5_51, q1_8, q5_52, ⟨rfl, by decide +kernel, by decide +kernel, by decide +kernel⟩⟩
set_option maxHeartbeats 4000000 in
set_option maxRecDepth 100000 in
theorem k_X7_loan {X : JX RS} {ad : Nat → Nat} (h : OK X RX7 cX7_loan rmX7_loan) (hM : IsRef X.cI X.B ad) (hnL : X.nL = 3) {res : Int32} {S : RS} {p1 : Int32} {p2 : Int32} (hE : EXi X cX7_loan res S) (hF : f_X7_loan S p1 p2 = some res) : J X 0 [(0, .ref (ad 7)), (1, .int p1), (2, .int p2)] [] S := by
  rw [f_X7_loan] at hF
  refine j_aload_n h 0 rfl rfl dX7_loan_0 ?_
  refine j_iload_n h 1 rfl rfl dX7_loan_1 ?_
  obtain ⟨r_1, hr_1, hF⟩ := bind_row hF
  refine j_callVz h (st := []) (S' := S) (c_X7_isLoan X.l X.D X.cI X.cZ X.cV hM S p1 hr_1) rfl rfl q4_146 cw_X7_isLoan hM.2.1.o rfl rfl rfl ⟨rfl, rfl, Nat.le_of_ble_eq_true rfl, Nat.le_of_ble_eq_true rfl⟩ _ rfl (Nat.le_of_ble_eq_true rfl) dX7_loan_2 (fun hz_r_1 => ?_)
  refine j_if_eq h 26 (by decide) dX7_loan_5 hF (fun hF => ?_) (fun hF => ?_)
  · refine j_ldc h (v := -1000002) q4_80 dX7_loan_26 ?_
    cases hF
    exact hE _ _ dX7_loan_28
  · refine j_iload_n h 2 rfl rfl dX7_loan_8 ?_
    refine j_iconst h (v := 0) (by decide) dX7_loan_9 ?_
    refine j_iconst h (v := 2) (by decide) dX7_loan_10 ?_
    obtain ⟨r_2, hr_2, hF⟩ := bind_row hF
    refine j_callSz h (st := []) (S' := S) (c_X7_within X.l X.D X.cI X.cZ X.cV (B := X.B) S p2 (0 : Int32) (2 : Int32) hr_2) rfl rfl q4_77 cw_X7_within rfl ⟨rfl, rfl, Nat.le_of_ble_eq_true rfl, Nat.le_of_ble_eq_true rfl⟩ _ rfl (Nat.le_of_ble_eq_true rfl) dX7_loan_11 (fun hz_r_2 => ?_)
    refine j_if_eq h 26 (by decide) dX7_loan_14 hF (fun hF => ?_) (fun hF => ?_)
    · refine j_ldc h (v := -1000002) q4_80 dX7_loan_26 ?_
      cases hF
      exact hE _ _ dX7_loan_28
    · refine j_aload_n h 0 rfl rfl dX7_loan_17 ?_
      refine j_iload_n h 1 rfl rfl dX7_loan_18 ?_
      refine j_iload_n h 2 rfl rfl dX7_loan_19 ?_
      obtain ⟨r_3, hr_3, hF⟩ := bind_row hF
      refine j_callVi h (st := []) (S' := S) (c_X7_loanOf X.l X.D X.cI X.cZ X.cV hM S p1 p2 hr_3) rfl rfl q4_113 cw_X7_loanOf hM.2.1.o rfl rfl rfl ⟨rfl, rfl, Nat.le_of_ble_eq_true rfl, Nat.le_of_ble_eq_true rfl⟩ _ rfl (Nat.le_of_ble_eq_true rfl) dX7_loan_20 ?_
      refine j_goto h 28 (by decide) dX7_loan_23 ?_
      cases hF
      exact hE _ _ dX7_loan_28
theorem c_X7_loan (l : Launch) (D : va_G) (cI cZ cV : ClassId) {B : RS → va_W} {ad : Nat → Nat} (hM : IsRef cI B ad) (S : RS) (p1 : Int32) (p2 : Int32) {r : Int32} (hF : f_X7_loan S p1 p2 = some r) : CTi l D (jtys cI cZ cV) yX7_loan cX7_loan 3 (some .int) rmX7_loan B [.ref (ad 7), .int p1, .int p2] S r S := by
  refine CTi.of [(0, .ref (ad 7)), (1, .int p1), (2, .int p2)] rfl (Nat.le_of_ble_eq_true rfl) (by decide) ⟨rfl, rfl⟩ (fun X e1 e2 e3 e4 e5 e6 e7 h hE => ?_)
  subst e1; subst e2; subst e3; subst e4; subst e5; subst e6
  exact k_X7_loan h hM e7 hE hF
abbrev rmX7_batteryNow : Room := { frames := 2, cells := 0, slots := 0, locals := 43 }
theorem cw_X7_batteryNow : CWv RX7 yX7_batteryNow cX7_batteryNow 3 (some .int) 2 := ⟨q5_59, qs60, q1_8, q5_60, ⟨rfl, by decide +kernel, by decide +kernel, by decide +kernel⟩⟩
set_option maxHeartbeats 4000000 in
set_option maxRecDepth 100000 in
theorem k_X7_batteryNow {X : JX RS} {ad : Nat → Nat} (h : OK X RX7 cX7_batteryNow rmX7_batteryNow) (hM : IsRef X.cI X.B ad) (hnL : X.nL = 3) {res : Int32} {S : RS} {p1 : Int32} {p2 : Int32} (hE : EXi X cX7_batteryNow res S) (hF : f_X7_batteryNow S p1 p2 = some res) : J X 0 [(0, .ref (ad 7)), (1, .int p1), (2, .int p2)] [] S := by
  rw [f_X7_batteryNow] at hF
  refine j_iload_n h 2 rfl rfl dX7_batteryNow_0 ?_
  refine j_iconst h (v := 4) (by decide) dX7_batteryNow_1 ?_
  refine j_icmp_ne h 13 (by decide) dX7_batteryNow_2 hF (fun hF => ?_) (fun hF => ?_)
  · refine j_aload_n h 0 rfl rfl dX7_batteryNow_5 ?_
    refine j_iload_n h 1 rfl rfl dX7_batteryNow_6 ?_
    obtain ⟨r_1, hr_1, hF⟩ := bind_row hF
    refine j_callVi h (st := []) (S' := S) (c_X7_canGive X.l X.D X.cI X.cZ X.cV hM S p1 hr_1) rfl rfl q4_189 cw_X7_canGive hM.2.1.o rfl rfl rfl ⟨rfl, rfl, Nat.le_of_ble_eq_true rfl, Nat.le_of_ble_eq_true rfl⟩ _ rfl (Nat.le_of_ble_eq_true rfl) dX7_batteryNow_7 ?_
    refine j_goto h 19 (by decide) dX7_batteryNow_10 ?_
    cases hF
    exact hE _ _ dX7_batteryNow_19
  · refine j_aload_n h 0 rfl rfl dX7_batteryNow_13 ?_
    refine j_iload_n h 1 rfl rfl dX7_batteryNow_14 ?_
    refine j_iload_n h 2 rfl rfl dX7_batteryNow_15 ?_
    obtain ⟨r_2, hr_2, hF⟩ := bind_row hF
    refine j_callVi h (st := []) (S' := S) (c_X7_cell X.l X.D X.cI X.cZ X.cV hM S p1 p2 hr_2) rfl rfl q4_193 cw_X7_cell hM.2.1.o rfl rfl rfl ⟨rfl, rfl, Nat.le_of_ble_eq_true rfl, Nat.le_of_ble_eq_true rfl⟩ _ rfl (Nat.le_of_ble_eq_true rfl) dX7_batteryNow_16 ?_
    cases hF
    exact hE _ _ dX7_batteryNow_19
theorem c_X7_batteryNow (l : Launch) (D : va_G) (cI cZ cV : ClassId) {B : RS → va_W} {ad : Nat → Nat} (hM : IsRef cI B ad) (S : RS) (p1 : Int32) (p2 : Int32) {r : Int32} (hF : f_X7_batteryNow S p1 p2 = some r) : CTi l D (jtys cI cZ cV) yX7_batteryNow cX7_batteryNow 3 (some .int) rmX7_batteryNow B [.ref (ad 7), .int p1, .int p2] S r S := by
  refine CTi.of [(0, .ref (ad 7)), (1, .int p1), (2, .int p2)] rfl (Nat.le_of_ble_eq_true rfl) (by decide) ⟨rfl, rfl⟩ (fun X e1 e2 e3 e4 e5 e6 e7 h hE => ?_)
  subst e1; subst e2; subst e3; subst e4; subst e5; subst e6
  exact k_X7_batteryNow h hM e7 hE hF
abbrev rmX7_battery : Room := { frames := 3, cells := 0, slots := 0, locals := 65 }
theorem cw_X7_battery : CWv RX7 yX7_battery cX7_battery 3 (some .int) 2 := ⟨q5_54, q5_55, q1_8, q5_56, ⟨rfl, by decide +kernel, by decide +kernel, by decide +kernel⟩⟩
set_option maxHeartbeats 4000000 in
set_option maxRecDepth 100000 in
theorem k_X7_battery {X : JX RS} {ad : Nat → Nat} (h : OK X RX7 cX7_battery rmX7_battery) (hM : IsRef X.cI X.B ad) (hnL : X.nL = 3) {res : Int32} {S : RS} {p1 : Int32} {p2 : Int32} (hE : EXi X cX7_battery res S) (hF : f_X7_battery S p1 p2 = some res) : J X 0 [(0, .ref (ad 7)), (1, .int p1), (2, .int p2)] [] S := by
  rw [f_X7_battery] at hF
  refine j_iload_n h 1 rfl rfl dX7_battery_0 ?_
  refine j_iconst h (v := 0) (by decide) dX7_battery_1 ?_
  refine j_iconst h (v := 1) (by decide) dX7_battery_2 ?_
  obtain ⟨r_1, hr_1, hF⟩ := bind_row hF
  refine j_callSz h (st := []) (S' := S) (c_X7_within X.l X.D X.cI X.cZ X.cV (B := X.B) S p1 (0 : Int32) (1 : Int32) hr_1) rfl rfl q4_77 cw_X7_within rfl ⟨rfl, rfl, Nat.le_of_ble_eq_true rfl, Nat.le_of_ble_eq_true rfl⟩ _ rfl (Nat.le_of_ble_eq_true rfl) dX7_battery_3 (fun hz_r_1 => ?_)
  refine j_if_eq h 27 (by decide) dX7_battery_6 hF (fun hF => ?_) (fun hF => ?_)
  · refine j_ldc h (v := -1000002) q4_80 dX7_battery_27 ?_
    cases hF
    exact hE _ _ dX7_battery_29
  · refine j_iload_n h 2 rfl rfl dX7_battery_9 ?_
    refine j_iconst h (v := 0) (by decide) dX7_battery_10 ?_
    refine j_iconst h (v := 4) (by decide) dX7_battery_11 ?_
    obtain ⟨r_2, hr_2, hF⟩ := bind_row hF
    refine j_callSz h (st := []) (S' := S) (c_X7_within X.l X.D X.cI X.cZ X.cV (B := X.B) S p2 (0 : Int32) (4 : Int32) hr_2) rfl rfl q4_77 cw_X7_within rfl ⟨rfl, rfl, Nat.le_of_ble_eq_true rfl, Nat.le_of_ble_eq_true rfl⟩ _ rfl (Nat.le_of_ble_eq_true rfl) dX7_battery_12 (fun hz_r_2 => ?_)
    refine j_if_eq h 27 (by decide) dX7_battery_15 hF (fun hF => ?_) (fun hF => ?_)
    · refine j_ldc h (v := -1000002) q4_80 dX7_battery_27 ?_
      cases hF
      exact hE _ _ dX7_battery_29
    · refine j_aload_n h 0 rfl rfl dX7_battery_18 ?_
      refine j_iload_n h 1 rfl rfl dX7_battery_19 ?_
      refine j_iload_n h 2 rfl rfl dX7_battery_20 ?_
      obtain ⟨r_3, hr_3, hF⟩ := bind_row hF
      refine j_callVi h (st := []) (S' := S) (c_X7_batteryNow X.l X.D X.cI X.cZ X.cV hM S p1 p2 hr_3) rfl rfl q5_57 cw_X7_batteryNow hM.2.1.o rfl rfl rfl ⟨rfl, rfl, Nat.le_of_ble_eq_true rfl, Nat.le_of_ble_eq_true rfl⟩ _ rfl (Nat.le_of_ble_eq_true rfl) dX7_battery_21 ?_
      refine j_goto h 29 (by decide) dX7_battery_24 ?_
      cases hF
      exact hE _ _ dX7_battery_29
theorem c_X7_battery (l : Launch) (D : va_G) (cI cZ cV : ClassId) {B : RS → va_W} {ad : Nat → Nat} (hM : IsRef cI B ad) (S : RS) (p1 : Int32) (p2 : Int32) {r : Int32} (hF : f_X7_battery S p1 p2 = some r) : CTi l D (jtys cI cZ cV) yX7_battery cX7_battery 3 (some .int) rmX7_battery B [.ref (ad 7), .int p1, .int p2] S r S := by
  refine CTi.of [(0, .ref (ad 7)), (1, .int p1), (2, .int p2)] rfl (Nat.le_of_ble_eq_true rfl) (by decide) ⟨rfl, rfl⟩ (fun X e1 e2 e3 e4 e5 e6 e7 h hE => ?_)
  subst e1; subst e2; subst e3; subst e4; subst e5; subst e6
  exact k_X7_battery h hM e7 hE hF
abbrev rmX7_ofHouses : Room := { frames := 2, cells := 0, slots := 0, locals := 45 }
theorem cw_X7_ofHouses : CWv RX7 yX7_ofHouses cX7_ofHouses 5 (some .int) 2 := ⟨q5_71, qs62, q1_8, q5_72, ⟨rfl, by decide +kernel, by decide +kernel, by decide +kernel⟩⟩
set_option maxHeartbeats 4000000 in
set_option maxRecDepth 100000 in
theorem k_X7_ofHouses_61 {X : JX RS} {ad : Nat → Nat} (h : OK X RX7 cX7_ofHouses rmX7_ofHouses) (hM : IsRef X.cI X.B ad) (hnL : X.nL = 5) {res : Int32} {S : RS} {x1 : Int32} {x2 : Int32} {x3 : Int32} {x4 : Int32} {K5 : Int32 → Int32 → Option (Int32)} (hK5 : ∀ (x3 : Int32) (x4 : Int32), K5 x3 x4 = some res → J X 5 [(0, .ref (ad 7)), (1, .int x1), (2, .int x2), (3, .int x3), (4, .int x4)] [] S) (hE : EXi X cX7_ofHouses res S) (hF : f_X7_ofHouses_61 K5 S x1 x2 x3 x4 = some res) : J X 61 [(0, .ref (ad 7)), (1, .int x1), (2, .int x2), (3, .int x3), (4, .int x4)] [] S := by
  rw [f_X7_ofHouses_61] at hF
  refine j_iincL hF (fun x_4 ex_4 hF => ?_)
  refine j_iinc h hnL 4 [(4, .int x_4), (0, .ref (ad 7)), (1, .int x1), (2, .int x2), (3, .int x3)] rfl ex_4 (by decide) (by decide) rfl dX7_ofHouses_61 ?_
  refine j_goto h 5 (by decide) dX7_ofHouses_64 ?_
  exact j_sub [1, 2, 3, 4, 0] rfl (hK5 _ _ hF)
set_option maxHeartbeats 4000000 in
set_option maxRecDepth 100000 in
theorem k_X7_ofHouses_59 {X : JX RS} {ad : Nat → Nat} (h : OK X RX7 cX7_ofHouses rmX7_ofHouses) (hM : IsRef X.cI X.B ad) (hnL : X.nL = 5) {res : Int32} {S : RS} {x1 : Int32} {x2 : Int32} {x4 : Int32} {s0 : Int32} {s1 : Int32} {K5 : Int32 → Int32 → Option (Int32)} (hK5 : ∀ (x3 : Int32) (x4 : Int32), K5 x3 x4 = some res → J X 5 [(0, .ref (ad 7)), (1, .int x1), (2, .int x2), (3, .int x3), (4, .int x4)] [] S) (hE : EXi X cX7_ofHouses res S) (hF : f_X7_ofHouses_59 K5 S x1 x2 x4 s0 s1 = some res) : J X 59 [(0, .ref (ad 7)), (1, .int x1), (2, .int x2), (4, .int x4)] [.int s0, .int s1] S := by
  rw [f_X7_ofHouses_59] at hF
  refine j_iadd h dX7_ofHouses_59 ?_
  refine j_let hF (fun x_3 hF => ?_)
  refine j_istore_n h hnL [(3, .int x_3), (0, .ref (ad 7)), (1, .int x1), (2, .int x2), (4, .int x4)] rfl (by decide) rfl dX7_ofHouses_60 ?_
  exact j_sub [1, 2, 3, 0, 4] rfl (k_X7_ofHouses_61 h hM hnL hK5 hE hF)
set_option maxHeartbeats 4000000 in
set_option maxRecDepth 100000 in
theorem k_X7_ofHouses_5 {X : JX RS} {ad : Nat → Nat} (h : OK X RX7 cX7_ofHouses rmX7_ofHouses) (hM : IsRef X.cI X.B ad) (hnL : X.nL = 5) {res : Int32} {S : RS} {x1 : Int32} {x2 : Int32} (hE : EXi X cX7_ofHouses res S) : ∀ (n : Nat) (x3 : Int32) (x4 : Int32), f_X7_ofHouses_5 S x1 x2 n x3 x4 = some res → J X 5 [(0, .ref (ad 7)), (1, .int x1), (2, .int x2), (3, .int x3), (4, .int x4)] [] S := by
  intro n
  induction n with
  | zero =>
    intro x3 x4 hF
    rw [f_X7_ofHouses_5] at hF
    cases hF
  | succ n ih =>
    intro x3 x4 hF
    rw [f_X7_ofHouses_5] at hF
    refine j_iload h 4 rfl dX7_ofHouses_5 ?_
    refine j_aload_n h 0 rfl rfl dX7_ofHouses_7 ?_
    refine j_get h hM.2.1.o inX7 rfl 0 (by decide) rfl q4_24 rfl dX7_ofHouses_8 ?_
    refine j_sipush h (v := 172) (by decide) dX7_ofHouses_11 ?_
    obtain ⟨hb_1, hF⟩ := bnd_row hF
    refine ja_iald h (get := fun S => S.1) (put := setR) (hM.1 0 (by decide)) hb_1 dX7_ofHouses_14 ?_
    refine j_icmp_ge h 67 (by decide) dX7_ofHouses_15 hF (fun hF => ?_) (fun hF => ?_)
    · refine j_iload_n h 3 rfl rfl dX7_ofHouses_67 ?_
      cases hF
      exact hE _ _ dX7_ofHouses_68
    · refine j_aload_n h 0 rfl rfl dX7_ofHouses_18 ?_
      refine j_iload h 4 rfl dX7_ofHouses_19 ?_
      refine j_iconst h (v := 0) (by decide) dX7_ofHouses_21 ?_
      obtain ⟨r_2, hr_2, hF⟩ := bind_row hF
      refine j_callVi h (st := []) (S' := S) (c_X7_of X.l X.D X.cI X.cZ X.cV hM S x4 (0 : Int32) hr_2) rfl rfl q4_101 cw_X7_of hM.2.1.o rfl rfl rfl ⟨rfl, rfl, Nat.le_of_ble_eq_true rfl, Nat.le_of_ble_eq_true rfl⟩ _ rfl (Nat.le_of_ble_eq_true rfl) dX7_ofHouses_22 ?_
      refine j_iload_n h 1 rfl rfl dX7_ofHouses_25 ?_
      refine j_icmp_ne h 61 (by decide) dX7_ofHouses_26 hF (fun hF => ?_) (fun hF => ?_)
      · refine j_iload_n h 3 rfl rfl dX7_ofHouses_29 ?_
        refine j_iload_n h 2 rfl rfl dX7_ofHouses_30 ?_
        refine j_if_ne h 38 (by decide) dX7_ofHouses_31 hF (fun hF => ?_) (fun hF => ?_)
        · refine j_iconst h (v := 1) (by decide) dX7_ofHouses_34 ?_
          refine j_goto h 59 (by decide) dX7_ofHouses_35 ?_
          exact j_sub [0, 1, 2, 4] rfl (k_X7_ofHouses_59 h hM hnL ih hE hF)
        · refine j_iload_n h 2 rfl rfl dX7_ofHouses_38 ?_
          refine j_iconst h (v := 1) (by decide) dX7_ofHouses_39 ?_
          refine j_icmp_ne h 52 (by decide) dX7_ofHouses_40 hF (fun hF => ?_) (fun hF => ?_)
          · refine j_aload_n h 0 rfl rfl dX7_ofHouses_43 ?_
            refine j_iload h 4 rfl dX7_ofHouses_44 ?_
            obtain ⟨r_5, hr_5, hF⟩ := bind_row hF
            refine j_callVi h (st := [.int x3]) (S' := S) (c_X7_canDraw X.l X.D X.cI X.cZ X.cV hM S x4 hr_5) rfl rfl q4_197 cw_X7_canDraw hM.2.1.o rfl rfl rfl ⟨rfl, rfl, Nat.le_of_ble_eq_true rfl, Nat.le_of_ble_eq_true rfl⟩ _ rfl (Nat.le_of_ble_eq_true rfl) dX7_ofHouses_46 ?_
            refine j_goto h 59 (by decide) dX7_ofHouses_49 ?_
            exact j_sub [0, 1, 2, 4] rfl (k_X7_ofHouses_59 h hM hnL ih hE hF)
          · refine j_aload_n h 0 rfl rfl dX7_ofHouses_52 ?_
            refine j_iload h 4 rfl dX7_ofHouses_53 ?_
            refine j_iconst h (v := 4) (by decide) dX7_ofHouses_55 ?_
            obtain ⟨r_6, hr_6, hF⟩ := bind_row hF
            refine j_callVi h (st := [.int x3]) (S' := S) (c_X7_of X.l X.D X.cI X.cZ X.cV hM S x4 (4 : Int32) hr_6) rfl rfl q4_101 cw_X7_of hM.2.1.o rfl rfl rfl ⟨rfl, rfl, Nat.le_of_ble_eq_true rfl, Nat.le_of_ble_eq_true rfl⟩ _ rfl (Nat.le_of_ble_eq_true rfl) dX7_ofHouses_56 ?_
            exact j_sub [0, 1, 2, 4] rfl (k_X7_ofHouses_59 h hM hnL ih hE hF)
      · exact j_sub [0, 1, 2, 3, 4] rfl (k_X7_ofHouses_61 h hM hnL ih hE hF)
set_option maxHeartbeats 4000000 in
set_option maxRecDepth 100000 in
theorem k_X7_ofHouses {X : JX RS} {ad : Nat → Nat} (h : OK X RX7 cX7_ofHouses rmX7_ofHouses) (hM : IsRef X.cI X.B ad) (hnL : X.nL = 5) {res : Int32} {S : RS} {p1 : Int32} {p2 : Int32} (hE : EXi X cX7_ofHouses res S) (hF : f_X7_ofHouses S p1 p2 = some res) : J X 0 [(0, .ref (ad 7)), (1, .int p1), (2, .int p2)] [] S := by
  rw [f_X7_ofHouses] at hF
  refine j_iconst h (v := 0) (by decide) dX7_ofHouses_0 ?_
  refine j_istore_n h hnL [(3, .int (0 : Int32)), (0, .ref (ad 7)), (1, .int p1), (2, .int p2)] rfl (by decide) rfl dX7_ofHouses_1 ?_
  refine j_iconst h (v := 0) (by decide) dX7_ofHouses_2 ?_
  refine j_istore h hnL [(4, .int (0 : Int32)), (3, .int (0 : Int32)), (0, .ref (ad 7)), (1, .int p1), (2, .int p2)] (by decide) rfl dX7_ofHouses_3 ?_
  exact j_sub [2, 3, 4, 1, 0] rfl (k_X7_ofHouses_5 h hM hnL hE fuel _ _ hF)
theorem c_X7_ofHouses (l : Launch) (D : va_G) (cI cZ cV : ClassId) {B : RS → va_W} {ad : Nat → Nat} (hM : IsRef cI B ad) (S : RS) (p1 : Int32) (p2 : Int32) {r : Int32} (hF : f_X7_ofHouses S p1 p2 = some r) : CTi l D (jtys cI cZ cV) yX7_ofHouses cX7_ofHouses 5 (some .int) rmX7_ofHouses B [.ref (ad 7), .int p1, .int p2] S r S := by
  refine CTi.of [(0, .ref (ad 7)), (1, .int p1), (2, .int p2)] rfl (Nat.le_of_ble_eq_true rfl) (by decide) ⟨rfl, rfl⟩ (fun X e1 e2 e3 e4 e5 e6 e7 h hE => ?_)
  subst e1; subst e2; subst e3; subst e4; subst e5; subst e6
  exact k_X7_ofHouses h hM e7 hE hF
abbrev rmX7_feederNow : Room := { frames := 3, cells := 0, slots := 0, locals := 69 }
theorem cw_X7_feederNow : CWv RX7 yX7_feederNow cX7_feederNow 3 (some .int) 2 := ⟨q5_67, qs61, q1_8, q5_68, ⟨rfl, by decide +kernel, by decide +kernel, by decide +kernel⟩⟩
set_option maxHeartbeats 4000000 in
set_option maxRecDepth 100000 in
theorem k_X7_feederNow {X : JX RS} {ad : Nat → Nat} (h : OK X RX7 cX7_feederNow rmX7_feederNow) (hM : IsRef X.cI X.B ad) (hnL : X.nL = 3) {res : Int32} {S : RS} {p1 : Int32} {p2 : Int32} (hE : EXi X cX7_feederNow res S) (hF : f_X7_feederNow S p1 p2 = some res) : J X 0 [(0, .ref (ad 7)), (1, .int p1), (2, .int p2)] [] S := by
  rw [f_X7_feederNow] at hF
  refine j_iload_n h 2 rfl rfl dX7_feederNow_0 ?_
  refine j_iconst h (v := 3) (by decide) dX7_feederNow_1 ?_
  refine j_icmp_ge h 14 (by decide) dX7_feederNow_2 hF (fun hF => ?_) (fun hF => ?_)
  · refine j_iload_n h 2 rfl rfl dX7_feederNow_14 ?_
    refine j_iconst h (v := 3) (by decide) dX7_feederNow_15 ?_
    refine j_icmp_ne h 32 (by decide) dX7_feederNow_16 hF (fun hF => ?_) (fun hF => ?_)
    · refine j_aload_n h 0 rfl rfl dX7_feederNow_19 ?_
      refine j_get h hM.2.1.o inX7 rfl 0 (by decide) rfl q4_24 rfl dX7_feederNow_20 ?_
      refine j_sipush h (v := 189) (by decide) dX7_feederNow_23 ?_
      refine j_iload_n h 1 rfl rfl dX7_feederNow_26 ?_
      refine j_iadd h dX7_feederNow_27 ?_
      obtain ⟨hb_1, hF⟩ := bnd_row hF
      refine ja_iald h (get := fun S => S.1) (put := setR) (hM.1 0 (by decide)) hb_1 dX7_feederNow_28 ?_
      refine j_goto h 42 (by decide) dX7_feederNow_29 ?_
      cases hF
      exact hE _ _ dX7_feederNow_42
    · refine j_aload_n h 0 rfl rfl dX7_feederNow_32 ?_
      refine j_get h hM.2.1.o inX7 rfl 0 (by decide) rfl q4_24 rfl dX7_feederNow_33 ?_
      refine j_sipush h (v := 192) (by decide) dX7_feederNow_36 ?_
      refine j_iload_n h 1 rfl rfl dX7_feederNow_39 ?_
      refine j_iadd h dX7_feederNow_40 ?_
      obtain ⟨hb_2, hF⟩ := bnd_row hF
      refine ja_iald h (get := fun S => S.1) (put := setR) (hM.1 0 (by decide)) hb_2 dX7_feederNow_41 ?_
      cases hF
      exact hE _ _ dX7_feederNow_42
  · refine j_aload_n h 0 rfl rfl dX7_feederNow_5 ?_
    refine j_iload_n h 1 rfl rfl dX7_feederNow_6 ?_
    refine j_iload_n h 2 rfl rfl dX7_feederNow_7 ?_
    obtain ⟨r_3, hr_3, hF⟩ := bind_row hF
    refine j_callVi h (st := []) (S' := S) (c_X7_ofHouses X.l X.D X.cI X.cZ X.cV hM S p1 p2 hr_3) rfl rfl q5_69 cw_X7_ofHouses hM.2.1.o rfl rfl rfl ⟨rfl, rfl, Nat.le_of_ble_eq_true rfl, Nat.le_of_ble_eq_true rfl⟩ _ rfl (Nat.le_of_ble_eq_true rfl) dX7_feederNow_8 ?_
    refine j_goto h 42 (by decide) dX7_feederNow_11 ?_
    cases hF
    exact hE _ _ dX7_feederNow_42
theorem c_X7_feederNow (l : Launch) (D : va_G) (cI cZ cV : ClassId) {B : RS → va_W} {ad : Nat → Nat} (hM : IsRef cI B ad) (S : RS) (p1 : Int32) (p2 : Int32) {r : Int32} (hF : f_X7_feederNow S p1 p2 = some r) : CTi l D (jtys cI cZ cV) yX7_feederNow cX7_feederNow 3 (some .int) rmX7_feederNow B [.ref (ad 7), .int p1, .int p2] S r S := by
  refine CTi.of [(0, .ref (ad 7)), (1, .int p1), (2, .int p2)] rfl (Nat.le_of_ble_eq_true rfl) (by decide) ⟨rfl, rfl⟩ (fun X e1 e2 e3 e4 e5 e6 e7 h hE => ?_)
  subst e1; subst e2; subst e3; subst e4; subst e5; subst e6
  exact k_X7_feederNow h hM e7 hE hF
abbrev rmX7_feeder : Room := { frames := 4, cells := 0, slots := 0, locals := 91 }
theorem cw_X7_feeder : CWv RX7 yX7_feeder cX7_feeder 3 (some .int) 2 := ⟨q5_62, q5_63, q1_8, q5_64, ⟨rfl, by decide +kernel, by decide +kernel, by decide +kernel⟩⟩
set_option maxHeartbeats 4000000 in
set_option maxRecDepth 100000 in
theorem k_X7_feeder {X : JX RS} {ad : Nat → Nat} (h : OK X RX7 cX7_feeder rmX7_feeder) (hM : IsRef X.cI X.B ad) (hnL : X.nL = 3) {res : Int32} {S : RS} {p1 : Int32} {p2 : Int32} (hE : EXi X cX7_feeder res S) (hF : f_X7_feeder S p1 p2 = some res) : J X 0 [(0, .ref (ad 7)), (1, .int p1), (2, .int p2)] [] S := by
  rw [f_X7_feeder] at hF
  refine j_iload_n h 1 rfl rfl dX7_feeder_0 ?_
  refine j_iconst h (v := 0) (by decide) dX7_feeder_1 ?_
  refine j_iconst h (v := 2) (by decide) dX7_feeder_2 ?_
  obtain ⟨r_1, hr_1, hF⟩ := bind_row hF
  refine j_callSz h (st := []) (S' := S) (c_X7_within X.l X.D X.cI X.cZ X.cV (B := X.B) S p1 (0 : Int32) (2 : Int32) hr_1) rfl rfl q4_77 cw_X7_within rfl ⟨rfl, rfl, Nat.le_of_ble_eq_true rfl, Nat.le_of_ble_eq_true rfl⟩ _ rfl (Nat.le_of_ble_eq_true rfl) dX7_feeder_3 (fun hz_r_1 => ?_)
  refine j_if_eq h 27 (by decide) dX7_feeder_6 hF (fun hF => ?_) (fun hF => ?_)
  · refine j_ldc h (v := -1000002) q4_80 dX7_feeder_27 ?_
    cases hF
    exact hE _ _ dX7_feeder_29
  · refine j_iload_n h 2 rfl rfl dX7_feeder_9 ?_
    refine j_iconst h (v := 0) (by decide) dX7_feeder_10 ?_
    refine j_iconst h (v := 4) (by decide) dX7_feeder_11 ?_
    obtain ⟨r_2, hr_2, hF⟩ := bind_row hF
    refine j_callSz h (st := []) (S' := S) (c_X7_within X.l X.D X.cI X.cZ X.cV (B := X.B) S p2 (0 : Int32) (4 : Int32) hr_2) rfl rfl q4_77 cw_X7_within rfl ⟨rfl, rfl, Nat.le_of_ble_eq_true rfl, Nat.le_of_ble_eq_true rfl⟩ _ rfl (Nat.le_of_ble_eq_true rfl) dX7_feeder_12 (fun hz_r_2 => ?_)
    refine j_if_eq h 27 (by decide) dX7_feeder_15 hF (fun hF => ?_) (fun hF => ?_)
    · refine j_ldc h (v := -1000002) q4_80 dX7_feeder_27 ?_
      cases hF
      exact hE _ _ dX7_feeder_29
    · refine j_aload_n h 0 rfl rfl dX7_feeder_18 ?_
      refine j_iload_n h 1 rfl rfl dX7_feeder_19 ?_
      refine j_iload_n h 2 rfl rfl dX7_feeder_20 ?_
      obtain ⟨r_3, hr_3, hF⟩ := bind_row hF
      refine j_callVi h (st := []) (S' := S) (c_X7_feederNow X.l X.D X.cI X.cZ X.cV hM S p1 p2 hr_3) rfl rfl q5_65 cw_X7_feederNow hM.2.1.o rfl rfl rfl ⟨rfl, rfl, Nat.le_of_ble_eq_true rfl, Nat.le_of_ble_eq_true rfl⟩ _ rfl (Nat.le_of_ble_eq_true rfl) dX7_feeder_21 ?_
      refine j_goto h 29 (by decide) dX7_feeder_24 ?_
      cases hF
      exact hE _ _ dX7_feeder_29
theorem c_X7_feeder (l : Launch) (D : va_G) (cI cZ cV : ClassId) {B : RS → va_W} {ad : Nat → Nat} (hM : IsRef cI B ad) (S : RS) (p1 : Int32) (p2 : Int32) {r : Int32} (hF : f_X7_feeder S p1 p2 = some r) : CTi l D (jtys cI cZ cV) yX7_feeder cX7_feeder 3 (some .int) rmX7_feeder B [.ref (ad 7), .int p1, .int p2] S r S := by
  refine CTi.of [(0, .ref (ad 7)), (1, .int p1), (2, .int p2)] rfl (Nat.le_of_ble_eq_true rfl) (by decide) ⟨rfl, rfl⟩ (fun X e1 e2 e3 e4 e5 e6 e7 h hE => ?_)
  subst e1; subst e2; subst e3; subst e4; subst e5; subst e6
  exact k_X7_feeder h hM e7 hE hF
abbrev rmX7_accountNow : Room := { frames := 1, cells := 0, slots := 0, locals := 22 }
theorem cw_X7_accountNow : CWv RX7 yX7_accountNow cX7_accountNow 2 (some .int) 1 := ⟨q5_79, qs63, q1_8, q5_80, ⟨rfl, by decide +kernel, by decide +kernel, by decide +kernel⟩⟩
set_option maxHeartbeats 4000000 in
set_option maxRecDepth 100000 in
theorem k_X7_accountNow {X : JX RS} {ad : Nat → Nat} (h : OK X RX7 cX7_accountNow rmX7_accountNow) (hM : IsRef X.cI X.B ad) (hnL : X.nL = 2) {res : Int32} {S : RS} {p1 : Int32} (hE : EXi X cX7_accountNow res S) (hF : f_X7_accountNow S p1 = some res) : J X 0 [(0, .ref (ad 7)), (1, .int p1)] [] S := by
  rw [f_X7_accountNow] at hF
  refine j_iload_n h 1 rfl rfl dX7_accountNow_0 ?_
  refine j_iconst h (v := 5) (by decide) dX7_accountNow_1 ?_
  refine j_icmp_ne h 21 (by decide) dX7_accountNow_2 hF (fun hF => ?_) (fun hF => ?_)
  · refine j_aload_n h 0 rfl rfl dX7_accountNow_5 ?_
    refine j_iconst h (v := 0) (by decide) dX7_accountNow_6 ?_
    refine j_iconst h (v := 3) (by decide) dX7_accountNow_7 ?_
    obtain ⟨r_1, hr_1, hF⟩ := bind_row hF
    refine j_callVi h (st := []) (S' := S) (c_X7_cell X.l X.D X.cI X.cZ X.cV hM S (0 : Int32) (3 : Int32) hr_1) rfl rfl q4_193 cw_X7_cell hM.2.1.o rfl rfl rfl ⟨rfl, rfl, Nat.le_of_ble_eq_true rfl, Nat.le_of_ble_eq_true rfl⟩ _ rfl (Nat.le_of_ble_eq_true rfl) dX7_accountNow_8 ?_
    refine j_aload_n h 0 rfl rfl dX7_accountNow_11 ?_
    refine j_iconst h (v := 1) (by decide) dX7_accountNow_12 ?_
    refine j_iconst h (v := 3) (by decide) dX7_accountNow_13 ?_
    obtain ⟨r_2, hr_2, hF⟩ := bind_row hF
    refine j_callVi h (st := [.int r_1]) (S' := S) (c_X7_cell X.l X.D X.cI X.cZ X.cV hM S (1 : Int32) (3 : Int32) hr_2) rfl rfl q4_193 cw_X7_cell hM.2.1.o rfl rfl rfl ⟨rfl, rfl, Nat.le_of_ble_eq_true rfl, Nat.le_of_ble_eq_true rfl⟩ _ rfl (Nat.le_of_ble_eq_true rfl) dX7_accountNow_14 ?_
    refine j_iadd h dX7_accountNow_17 ?_
    refine j_goto h 31 (by decide) dX7_accountNow_18 ?_
    cases hF
    exact hE _ _ dX7_accountNow_31
  · refine j_aload_n h 0 rfl rfl dX7_accountNow_21 ?_
    refine j_get h hM.2.1.o inX7 rfl 0 (by decide) rfl q4_24 rfl dX7_accountNow_22 ?_
    refine j_sipush h (v := 181) (by decide) dX7_accountNow_25 ?_
    refine j_iload_n h 1 rfl rfl dX7_accountNow_28 ?_
    refine j_iadd h dX7_accountNow_29 ?_
    obtain ⟨hb_3, hF⟩ := bnd_row hF
    refine ja_iald h (get := fun S => S.1) (put := setR) (hM.1 0 (by decide)) hb_3 dX7_accountNow_30 ?_
    cases hF
    exact hE _ _ dX7_accountNow_31
theorem c_X7_accountNow (l : Launch) (D : va_G) (cI cZ cV : ClassId) {B : RS → va_W} {ad : Nat → Nat} (hM : IsRef cI B ad) (S : RS) (p1 : Int32) {r : Int32} (hF : f_X7_accountNow S p1 = some r) : CTi l D (jtys cI cZ cV) yX7_accountNow cX7_accountNow 2 (some .int) rmX7_accountNow B [.ref (ad 7), .int p1] S r S := by
  refine CTi.of [(0, .ref (ad 7)), (1, .int p1)] rfl (Nat.le_of_ble_eq_true rfl) (by decide) ⟨rfl, rfl⟩ (fun X e1 e2 e3 e4 e5 e6 e7 h hE => ?_)
  subst e1; subst e2; subst e3; subst e4; subst e5; subst e6
  exact k_X7_accountNow h hM e7 hE hF
abbrev rmX7_account : Room := { frames := 2, cells := 0, slots := 0, locals := 43 }
theorem cw_X7_account : CWv RX7 yX7_account cX7_account 2 (some .int) 1 := ⟨q5_74, q5_75, q1_8, q5_76, ⟨rfl, by decide +kernel, by decide +kernel, by decide +kernel⟩⟩
set_option maxHeartbeats 4000000 in
set_option maxRecDepth 100000 in
theorem k_X7_account {X : JX RS} {ad : Nat → Nat} (h : OK X RX7 cX7_account rmX7_account) (hM : IsRef X.cI X.B ad) (hnL : X.nL = 2) {res : Int32} {S : RS} {p1 : Int32} (hE : EXi X cX7_account res S) (hF : f_X7_account S p1 = some res) : J X 0 [(0, .ref (ad 7)), (1, .int p1)] [] S := by
  rw [f_X7_account] at hF
  refine j_iload_n h 1 rfl rfl dX7_account_0 ?_
  refine j_iconst h (v := 0) (by decide) dX7_account_1 ?_
  refine j_bipush h (v := 7) (by decide) dX7_account_2 ?_
  obtain ⟨r_1, hr_1, hF⟩ := bind_row hF
  refine j_callSz h (st := []) (S' := S) (c_X7_within X.l X.D X.cI X.cZ X.cV (B := X.B) S p1 (0 : Int32) (7 : Int32) hr_1) rfl rfl q4_77 cw_X7_within rfl ⟨rfl, rfl, Nat.le_of_ble_eq_true rfl, Nat.le_of_ble_eq_true rfl⟩ _ rfl (Nat.le_of_ble_eq_true rfl) dX7_account_4 (fun hz_r_1 => ?_)
  refine j_if_eq h 18 (by decide) dX7_account_7 hF (fun hF => ?_) (fun hF => ?_)
  · refine j_ldc h (v := -1000002) q4_80 dX7_account_18 ?_
    cases hF
    exact hE _ _ dX7_account_20
  · refine j_aload_n h 0 rfl rfl dX7_account_10 ?_
    refine j_iload_n h 1 rfl rfl dX7_account_11 ?_
    obtain ⟨r_2, hr_2, hF⟩ := bind_row hF
    refine j_callVi h (st := []) (S' := S) (c_X7_accountNow X.l X.D X.cI X.cZ X.cV hM S p1 hr_2) rfl rfl q5_77 cw_X7_accountNow hM.2.1.o rfl rfl rfl ⟨rfl, rfl, Nat.le_of_ble_eq_true rfl, Nat.le_of_ble_eq_true rfl⟩ _ rfl (Nat.le_of_ble_eq_true rfl) dX7_account_12 ?_
    refine j_goto h 20 (by decide) dX7_account_15 ?_
    cases hF
    exact hE _ _ dX7_account_20
theorem c_X7_account (l : Launch) (D : va_G) (cI cZ cV : ClassId) {B : RS → va_W} {ad : Nat → Nat} (hM : IsRef cI B ad) (S : RS) (p1 : Int32) {r : Int32} (hF : f_X7_account S p1 = some r) : CTi l D (jtys cI cZ cV) yX7_account cX7_account 2 (some .int) rmX7_account B [.ref (ad 7), .int p1] S r S := by
  refine CTi.of [(0, .ref (ad 7)), (1, .int p1)] rfl (Nat.le_of_ble_eq_true rfl) (by decide) ⟨rfl, rfl⟩ (fun X e1 e2 e3 e4 e5 e6 e7 h hE => ?_)
  subst e1; subst e2; subst e3; subst e4; subst e5; subst e6
  exact k_X7_account h hM e7 hE hF
abbrev rmX7_supply : Room := { frames := 1, cells := 0, slots := 0, locals := 21 }
theorem cw_X7_supply : CWv RX7 yX7_supply cX7_supply 2 (some .int) 1 := ⟨q5_82, q5_83, q1_8, q5_84, ⟨rfl, by decide +kernel, by decide +kernel, by decide +kernel⟩⟩
set_option maxHeartbeats 4000000 in
set_option maxRecDepth 100000 in
theorem k_X7_supply {X : JX RS} {ad : Nat → Nat} (h : OK X RX7 cX7_supply rmX7_supply) (hM : IsRef X.cI X.B ad) (hnL : X.nL = 2) {res : Int32} {S : RS} {p1 : Int32} (hE : EXi X cX7_supply res S) (hF : f_X7_supply S p1 = some res) : J X 0 [(0, .ref (ad 7)), (1, .int p1)] [] S := by
  rw [f_X7_supply] at hF
  refine j_iload_n h 1 rfl rfl dX7_supply_0 ?_
  refine j_if_ge h 9 (by decide) dX7_supply_1 hF (fun hF => ?_) (fun hF => ?_)
  · refine j_aload_n h 0 rfl rfl dX7_supply_9 ?_
    refine j_iload_n h 1 rfl rfl dX7_supply_10 ?_
    obtain ⟨r_1, hr_1, hF⟩ := bind_row hF
    refine j_callVi h (st := []) (S' := S) (c_X7_supplyAt X.l X.D X.cI X.cZ X.cV hM S p1 hr_1) rfl rfl q4_185 cw_X7_supplyAt hM.2.1.o rfl rfl rfl ⟨rfl, rfl, Nat.le_of_ble_eq_true rfl, Nat.le_of_ble_eq_true rfl⟩ _ rfl (Nat.le_of_ble_eq_true rfl) dX7_supply_11 ?_
    cases hF
    exact hE _ _ dX7_supply_14
  · refine j_ldc h (v := -1000002) q4_80 dX7_supply_4 ?_
    refine j_goto h 14 (by decide) dX7_supply_6 ?_
    cases hF
    exact hE _ _ dX7_supply_14
theorem c_X7_supply (l : Launch) (D : va_G) (cI cZ cV : ClassId) {B : RS → va_W} {ad : Nat → Nat} (hM : IsRef cI B ad) (S : RS) (p1 : Int32) {r : Int32} (hF : f_X7_supply S p1 = some r) : CTi l D (jtys cI cZ cV) yX7_supply cX7_supply 2 (some .int) rmX7_supply B [.ref (ad 7), .int p1] S r S := by
  refine CTi.of [(0, .ref (ad 7)), (1, .int p1)] rfl (Nat.le_of_ble_eq_true rfl) (by decide) ⟨rfl, rfl⟩ (fun X e1 e2 e3 e4 e5 e6 e7 h hE => ?_)
  subst e1; subst e2; subst e3; subst e4; subst e5; subst e6
  exact k_X7_supply h hM e7 hE hF
abbrev rmX7_negative : Room := { frames := 1, cells := 0, slots := 0, locals := 22 }
theorem cw_X7_negative : CWv RX7 yX7_negative cX7_negative 3 (some .int) 0 := ⟨q5_95, qs65, q1_8, q5_96, ⟨rfl, by decide +kernel, by decide +kernel, by decide +kernel⟩⟩
set_option maxHeartbeats 4000000 in
set_option maxRecDepth 100000 in
theorem k_X7_negative_31 {X : JX RS} {ad : Nat → Nat} (h : OK X RX7 cX7_negative rmX7_negative) (hM : IsRef X.cI X.B ad) (hnL : X.nL = 3) {res : Int32} {S : RS} {x2 : Int32} {s0 : Int32} {s1 : Int32} {K4 : Int32 → Int32 → Option (Int32)} (hK4 : ∀ (x1 : Int32) (x2 : Int32), K4 x1 x2 = some res → J X 4 [(0, .ref (ad 7)), (1, .int x1), (2, .int x2)] [] S) (hE : EXi X cX7_negative res S) (hF : f_X7_negative_31 K4 S x2 s0 s1 = some res) : J X 31 [(0, .ref (ad 7)), (2, .int x2)] [.int s0, .int s1] S := by
  rw [f_X7_negative_31] at hF
  refine j_iadd h dX7_negative_31 ?_
  refine j_let hF (fun x_3 hF => ?_)
  refine j_istore_n h hnL [(1, .int x_3), (0, .ref (ad 7)), (2, .int x2)] rfl (by decide) rfl dX7_negative_32 ?_
  refine j_iincL hF (fun x_4 ex_4 hF => ?_)
  refine j_iinc h hnL 2 [(2, .int x_4), (1, .int x_3), (0, .ref (ad 7))] rfl ex_4 (by decide) (by decide) rfl dX7_negative_33 ?_
  refine j_goto h 4 (by decide) dX7_negative_36 ?_
  exact j_sub [2, 1, 0] rfl (hK4 _ _ hF)
set_option maxHeartbeats 4000000 in
set_option maxRecDepth 100000 in
theorem k_X7_negative_4 {X : JX RS} {ad : Nat → Nat} (h : OK X RX7 cX7_negative rmX7_negative) (hM : IsRef X.cI X.B ad) (hnL : X.nL = 3) {res : Int32} {S : RS} (hE : EXi X cX7_negative res S) : ∀ (n : Nat) (x1 : Int32) (x2 : Int32), f_X7_negative_4 S n x1 x2 = some res → J X 4 [(0, .ref (ad 7)), (1, .int x1), (2, .int x2)] [] S := by
  intro n
  induction n with
  | zero =>
    intro x1 x2 hF
    rw [f_X7_negative_4] at hF
    cases hF
  | succ n ih =>
    intro x1 x2 hF
    rw [f_X7_negative_4] at hF
    refine j_iload_n h 2 rfl rfl dX7_negative_4 ?_
    refine j_aload_n h 0 rfl rfl dX7_negative_5 ?_
    refine j_get h hM.2.1.o inX7 rfl 0 (by decide) rfl q4_24 rfl dX7_negative_6 ?_
    refine j_sipush h (v := 172) (by decide) dX7_negative_9 ?_
    obtain ⟨hb_1, hF⟩ := bnd_row hF
    refine ja_iald h (get := fun S => S.1) (put := setR) (hM.1 0 (by decide)) hb_1 dX7_negative_12 ?_
    refine j_icmp_ge h 39 (by decide) dX7_negative_13 hF (fun hF => ?_) (fun hF => ?_)
    · refine j_iload_n h 1 rfl rfl dX7_negative_39 ?_
      cases hF
      exact hE _ _ dX7_negative_40
    · refine j_iload_n h 1 rfl rfl dX7_negative_16 ?_
      refine j_aload_n h 0 rfl rfl dX7_negative_17 ?_
      refine j_iload_n h 2 rfl rfl dX7_negative_18 ?_
      refine j_iconst h (v := 4) (by decide) dX7_negative_19 ?_
      obtain ⟨r_2, hr_2, hF⟩ := bind_row hF
      refine j_callVi h (st := [.int x1]) (S' := S) (c_X7_of X.l X.D X.cI X.cZ X.cV hM S x2 (4 : Int32) hr_2) rfl rfl q4_101 cw_X7_of hM.2.1.o rfl rfl rfl ⟨rfl, rfl, Nat.le_of_ble_eq_true rfl, Nat.le_of_ble_eq_true rfl⟩ _ rfl (Nat.le_of_ble_eq_true rfl) dX7_negative_20 ?_
      refine j_if_ge h 30 (by decide) dX7_negative_23 hF (fun hF => ?_) (fun hF => ?_)
      · refine j_iconst h (v := 0) (by decide) dX7_negative_30 ?_
        exact j_sub [0, 2] rfl (k_X7_negative_31 h hM hnL ih hE hF)
      · refine j_iconst h (v := 1) (by decide) dX7_negative_26 ?_
        refine j_goto h 31 (by decide) dX7_negative_27 ?_
        exact j_sub [0, 2] rfl (k_X7_negative_31 h hM hnL ih hE hF)
set_option maxHeartbeats 4000000 in
set_option maxRecDepth 100000 in
theorem k_X7_negative {X : JX RS} {ad : Nat → Nat} (h : OK X RX7 cX7_negative rmX7_negative) (hM : IsRef X.cI X.B ad) (hnL : X.nL = 3) {res : Int32} {S : RS} (hE : EXi X cX7_negative res S) (hF : f_X7_negative S = some res) : J X 0 [(0, .ref (ad 7))] [] S := by
  rw [f_X7_negative] at hF
  refine j_iconst h (v := 0) (by decide) dX7_negative_0 ?_
  refine j_istore_n h hnL [(1, .int (0 : Int32)), (0, .ref (ad 7))] rfl (by decide) rfl dX7_negative_1 ?_
  refine j_iconst h (v := 0) (by decide) dX7_negative_2 ?_
  refine j_istore_n h hnL [(2, .int (0 : Int32)), (1, .int (0 : Int32)), (0, .ref (ad 7))] rfl (by decide) rfl dX7_negative_3 ?_
  exact j_sub [2, 1, 0] rfl (k_X7_negative_4 h hM hnL hE fuel _ _ hF)
theorem c_X7_negative (l : Launch) (D : va_G) (cI cZ cV : ClassId) {B : RS → va_W} {ad : Nat → Nat} (hM : IsRef cI B ad) (S : RS) {r : Int32} (hF : f_X7_negative S = some r) : CTi l D (jtys cI cZ cV) yX7_negative cX7_negative 3 (some .int) rmX7_negative B [.ref (ad 7)] S r S := by
  refine CTi.of [(0, .ref (ad 7))] rfl (Nat.le_of_ble_eq_true rfl) (by decide) ⟨rfl, rfl⟩ (fun X e1 e2 e3 e4 e5 e6 e7 h hE => ?_)
  subst e1; subst e2; subst e3; subst e4; subst e5; subst e6
  exact k_X7_negative h hM e7 hE hF
abbrev rmX7_counted : Room := { frames := 2, cells := 0, slots := 0, locals := 44 }
theorem cw_X7_counted : CWv RX7 yX7_counted cX7_counted 2 (some .int) 1 := ⟨q5_91, qs64, q1_8, q5_92, ⟨rfl, by decide +kernel, by decide +kernel, by decide +kernel⟩⟩
set_option maxHeartbeats 4000000 in
set_option maxRecDepth 100000 in
theorem k_X7_counted {X : JX RS} {ad : Nat → Nat} (h : OK X RX7 cX7_counted rmX7_counted) (hM : IsRef X.cI X.B ad) (hnL : X.nL = 2) {res : Int32} {S : RS} {p1 : Int32} (hE : EXi X cX7_counted res S) (hF : f_X7_counted S p1 = some res) : J X 0 [(0, .ref (ad 7)), (1, .int p1)] [] S := by
  rw [f_X7_counted] at hF
  refine j_iload_n h 1 rfl rfl dX7_counted_0 ?_
  refine j_case hF (fun g_1 hF => ?_) (fun g_1 hF => ?_)
  · refine j_tableIn h (43) 44 0 g_1 (by decide) (by decide) (by decide) (by decide) dX7_counted_1 ?_
    refine j_aload_n h 0 rfl rfl dX7_counted_44 ?_
    refine j_get h hM.2.1.o inX7 rfl 0 (by decide) rfl q4_24 rfl dX7_counted_45 ?_
    refine j_sipush h (v := 172) (by decide) dX7_counted_48 ?_
    obtain ⟨hb_2, hF⟩ := bnd_row hF
    refine ja_iald h (get := fun S => S.1) (put := setR) (hM.1 0 (by decide)) hb_2 dX7_counted_51 ?_
    cases hF
    exact hE _ _ dX7_counted_52
  · have g_1 := sw_ne g_1 (n := 0) (by decide)
    refine j_case hF (fun g_3 hF => ?_) (fun g_3 hF => ?_)
    · refine j_tableIn h (52) 53 1 g_3 (by decide) (by decide) (by decide) (by decide) dX7_counted_1 ?_
      refine j_aload_n h 0 rfl rfl dX7_counted_53 ?_
      refine j_get h hM.2.1.o inX7 rfl 0 (by decide) rfl q4_24 rfl dX7_counted_54 ?_
      refine j_sipush h (v := 173) (by decide) dX7_counted_57 ?_
      obtain ⟨hb_4, hF⟩ := bnd_row hF
      refine ja_iald h (get := fun S => S.1) (put := setR) (hM.1 0 (by decide)) hb_4 dX7_counted_60 ?_
      cases hF
      exact hE _ _ dX7_counted_61
    · have g_3 := sw_ne g_3 (n := 1) (by decide)
      refine j_case hF (fun g_5 hF => ?_) (fun g_5 hF => ?_)
      · refine j_tableIn h (61) 62 2 g_5 (by decide) (by decide) (by decide) (by decide) dX7_counted_1 ?_
        refine j_aload_n h 0 rfl rfl dX7_counted_62 ?_
        refine j_get h hM.2.1.o inX7 rfl 0 (by decide) rfl q4_24 rfl dX7_counted_63 ?_
        refine j_sipush h (v := 174) (by decide) dX7_counted_66 ?_
        obtain ⟨hb_6, hF⟩ := bnd_row hF
        refine ja_iald h (get := fun S => S.1) (put := setR) (hM.1 0 (by decide)) hb_6 dX7_counted_69 ?_
        cases hF
        exact hE _ _ dX7_counted_70
      · have g_5 := sw_ne g_5 (n := 2) (by decide)
        refine j_case hF (fun g_7 hF => ?_) (fun g_7 hF => ?_)
        · refine j_tableIn h (70) 71 3 g_7 (by decide) (by decide) (by decide) (by decide) dX7_counted_1 ?_
          refine j_aload_n h 0 rfl rfl dX7_counted_71 ?_
          refine j_get h hM.2.1.o inX7 rfl 0 (by decide) rfl q4_24 rfl dX7_counted_72 ?_
          refine j_sipush h (v := 175) (by decide) dX7_counted_75 ?_
          obtain ⟨hb_8, hF⟩ := bnd_row hF
          refine ja_iald h (get := fun S => S.1) (put := setR) (hM.1 0 (by decide)) hb_8 dX7_counted_78 ?_
          cases hF
          exact hE _ _ dX7_counted_79
        · have g_7 := sw_ne g_7 (n := 3) (by decide)
          refine j_case hF (fun g_9 hF => ?_) (fun g_9 hF => ?_)
          · refine j_tableIn h (79) 80 4 g_9 (by decide) (by decide) (by decide) (by decide) dX7_counted_1 ?_
            refine j_aload_n h 0 rfl rfl dX7_counted_80 ?_
            refine j_get h hM.2.1.o inX7 rfl 0 (by decide) rfl q4_24 rfl dX7_counted_81 ?_
            refine j_sipush h (v := 176) (by decide) dX7_counted_84 ?_
            obtain ⟨hb_10, hF⟩ := bnd_row hF
            refine ja_iald h (get := fun S => S.1) (put := setR) (hM.1 0 (by decide)) hb_10 dX7_counted_87 ?_
            cases hF
            exact hE _ _ dX7_counted_88
          · have g_9 := sw_ne g_9 (n := 4) (by decide)
            refine j_case hF (fun g_11 hF => ?_) (fun g_11 hF => ?_)
            · refine j_tableIn h (88) 89 5 g_11 (by decide) (by decide) (by decide) (by decide) dX7_counted_1 ?_
              refine j_aload_n h 0 rfl rfl dX7_counted_89 ?_
              refine j_get h hM.2.1.o inX7 rfl 2 (by decide) rfl q4_26 rfl dX7_counted_90 ?_
              cases hF
              exact hE _ _ dX7_counted_93
            · have g_11 := sw_ne g_11 (n := 5) (by decide)
              refine j_case hF (fun g_12 hF => ?_) (fun g_12 hF => ?_)
              · refine j_tableIn h (93) 94 6 g_12 (by decide) (by decide) (by decide) (by decide) dX7_counted_1 ?_
                refine j_aload_n h 0 rfl rfl dX7_counted_94 ?_
                refine j_get h hM.2.1.o inX7 rfl 4 (by decide) rfl q4_28 rfl dX7_counted_95 ?_
                cases hF
                exact hE _ _ dX7_counted_98
              · have g_12 := sw_ne g_12 (n := 6) (by decide)
                refine j_tableOut h 99 (by omega) (by decide) dX7_counted_1 ?_
                refine j_aload_n h 0 rfl rfl dX7_counted_99 ?_
                obtain ⟨r_13, hr_13, hF⟩ := bind_row hF
                refine j_callVi h (st := []) (S' := S) (c_X7_negative X.l X.D X.cI X.cZ X.cV hM S hr_13) rfl rfl q5_93 cw_X7_negative hM.2.1.o rfl rfl rfl ⟨rfl, rfl, Nat.le_of_ble_eq_true rfl, Nat.le_of_ble_eq_true rfl⟩ _ rfl (Nat.le_of_ble_eq_true rfl) dX7_counted_100 ?_
                cases hF
                exact hE _ _ dX7_counted_103
theorem c_X7_counted (l : Launch) (D : va_G) (cI cZ cV : ClassId) {B : RS → va_W} {ad : Nat → Nat} (hM : IsRef cI B ad) (S : RS) (p1 : Int32) {r : Int32} (hF : f_X7_counted S p1 = some r) : CTi l D (jtys cI cZ cV) yX7_counted cX7_counted 2 (some .int) rmX7_counted B [.ref (ad 7), .int p1] S r S := by
  refine CTi.of [(0, .ref (ad 7)), (1, .int p1)] rfl (Nat.le_of_ble_eq_true rfl) (by decide) ⟨rfl, rfl⟩ (fun X e1 e2 e3 e4 e5 e6 e7 h hE => ?_)
  subst e1; subst e2; subst e3; subst e4; subst e5; subst e6
  exact k_X7_counted h hM e7 hE hF
abbrev rmX7_count : Room := { frames := 3, cells := 0, slots := 0, locals := 65 }
theorem cw_X7_count : CWv RX7 yX7_count cX7_count 2 (some .int) 1 := ⟨q5_86, q5_87, q1_8, q5_88, ⟨rfl, by decide +kernel, by decide +kernel, by decide +kernel⟩⟩
set_option maxHeartbeats 4000000 in
set_option maxRecDepth 100000 in
theorem k_X7_count {X : JX RS} {ad : Nat → Nat} (h : OK X RX7 cX7_count rmX7_count) (hM : IsRef X.cI X.B ad) (hnL : X.nL = 2) {res : Int32} {S : RS} {p1 : Int32} (hE : EXi X cX7_count res S) (hF : f_X7_count S p1 = some res) : J X 0 [(0, .ref (ad 7)), (1, .int p1)] [] S := by
  rw [f_X7_count] at hF
  refine j_iload_n h 1 rfl rfl dX7_count_0 ?_
  refine j_iconst h (v := 0) (by decide) dX7_count_1 ?_
  refine j_bipush h (v := 7) (by decide) dX7_count_2 ?_
  obtain ⟨r_1, hr_1, hF⟩ := bind_row hF
  refine j_callSz h (st := []) (S' := S) (c_X7_within X.l X.D X.cI X.cZ X.cV (B := X.B) S p1 (0 : Int32) (7 : Int32) hr_1) rfl rfl q4_77 cw_X7_within rfl ⟨rfl, rfl, Nat.le_of_ble_eq_true rfl, Nat.le_of_ble_eq_true rfl⟩ _ rfl (Nat.le_of_ble_eq_true rfl) dX7_count_4 (fun hz_r_1 => ?_)
  refine j_if_eq h 18 (by decide) dX7_count_7 hF (fun hF => ?_) (fun hF => ?_)
  · refine j_ldc h (v := -1000002) q4_80 dX7_count_18 ?_
    cases hF
    exact hE _ _ dX7_count_20
  · refine j_aload_n h 0 rfl rfl dX7_count_10 ?_
    refine j_iload_n h 1 rfl rfl dX7_count_11 ?_
    obtain ⟨r_2, hr_2, hF⟩ := bind_row hF
    refine j_callVi h (st := []) (S' := S) (c_X7_counted X.l X.D X.cI X.cZ X.cV hM S p1 hr_2) rfl rfl q5_89 cw_X7_counted hM.2.1.o rfl rfl rfl ⟨rfl, rfl, Nat.le_of_ble_eq_true rfl, Nat.le_of_ble_eq_true rfl⟩ _ rfl (Nat.le_of_ble_eq_true rfl) dX7_count_12 ?_
    refine j_goto h 20 (by decide) dX7_count_15 ?_
    cases hF
    exact hE _ _ dX7_count_20
theorem c_X7_count (l : Launch) (D : va_G) (cI cZ cV : ClassId) {B : RS → va_W} {ad : Nat → Nat} (hM : IsRef cI B ad) (S : RS) (p1 : Int32) {r : Int32} (hF : f_X7_count S p1 = some r) : CTi l D (jtys cI cZ cV) yX7_count cX7_count 2 (some .int) rmX7_count B [.ref (ad 7), .int p1] S r S := by
  refine CTi.of [(0, .ref (ad 7)), (1, .int p1)] rfl (Nat.le_of_ble_eq_true rfl) (by decide) ⟨rfl, rfl⟩ (fun X e1 e2 e3 e4 e5 e6 e7 h hE => ?_)
  subst e1; subst e2; subst e3; subst e4; subst e5; subst e6
  exact k_X7_count h hM e7 hE hF
abbrev rmX7_setting : Room := { frames := 1, cells := 0, slots := 0, locals := 22 }
theorem cw_X7_setting : CWv RX7 yX7_setting cX7_setting 2 (some .int) 1 := ⟨q5_98, q5_99, q1_8, q5_100, ⟨rfl, by decide +kernel, by decide +kernel, by decide +kernel⟩⟩
set_option maxHeartbeats 4000000 in
set_option maxRecDepth 100000 in
theorem k_X7_setting {X : JX RS} {ad : Nat → Nat} (h : OK X RX7 cX7_setting rmX7_setting) (hM : IsRef X.cI X.B ad) (hnL : X.nL = 2) {res : Int32} {S : RS} {p1 : Int32} (hE : EXi X cX7_setting res S) (hF : f_X7_setting S p1 = some res) : J X 0 [(0, .ref (ad 7)), (1, .int p1)] [] S := by
  rw [f_X7_setting] at hF
  refine j_iload_n h 1 rfl rfl dX7_setting_0 ?_
  refine j_iconst h (v := 0) (by decide) dX7_setting_1 ?_
  refine j_iconst h (v := 3) (by decide) dX7_setting_2 ?_
  obtain ⟨r_1, hr_1, hF⟩ := bind_row hF
  refine j_callSz h (st := []) (S' := S) (c_X7_within X.l X.D X.cI X.cZ X.cV (B := X.B) S p1 (0 : Int32) (3 : Int32) hr_1) rfl rfl q4_77 cw_X7_within rfl ⟨rfl, rfl, Nat.le_of_ble_eq_true rfl, Nat.le_of_ble_eq_true rfl⟩ _ rfl (Nat.le_of_ble_eq_true rfl) dX7_setting_3 (fun hz_r_1 => ?_)
  refine j_if_eq h 17 (by decide) dX7_setting_6 hF (fun hF => ?_) (fun hF => ?_)
  · refine j_ldc h (v := -1000002) q4_80 dX7_setting_17 ?_
    cases hF
    exact hE _ _ dX7_setting_19
  · refine j_aload_n h 0 rfl rfl dX7_setting_9 ?_
    refine j_iload_n h 1 rfl rfl dX7_setting_10 ?_
    obtain ⟨r_2, hr_2, hF⟩ := bind_row hF
    refine j_callVi h (st := []) (S' := S) (c_X7_setting1 X.l X.D X.cI X.cZ X.cV hM S p1 hr_2) rfl rfl q4_126 cw_X7_setting1 hM.2.1.o rfl rfl rfl ⟨rfl, rfl, Nat.le_of_ble_eq_true rfl, Nat.le_of_ble_eq_true rfl⟩ _ rfl (Nat.le_of_ble_eq_true rfl) dX7_setting_11 ?_
    refine j_goto h 19 (by decide) dX7_setting_14 ?_
    cases hF
    exact hE _ _ dX7_setting_19
theorem c_X7_setting (l : Launch) (D : va_G) (cI cZ cV : ClassId) {B : RS → va_W} {ad : Nat → Nat} (hM : IsRef cI B ad) (S : RS) (p1 : Int32) {r : Int32} (hF : f_X7_setting S p1 = some r) : CTi l D (jtys cI cZ cV) yX7_setting cX7_setting 2 (some .int) rmX7_setting B [.ref (ad 7), .int p1] S r S := by
  refine CTi.of [(0, .ref (ad 7)), (1, .int p1)] rfl (Nat.le_of_ble_eq_true rfl) (by decide) ⟨rfl, rfl⟩ (fun X e1 e2 e3 e4 e5 e6 e7 h hE => ?_)
  subst e1; subst e2; subst e3; subst e4; subst e5; subst e6
  exact k_X7_setting h hM e7 hE hF
abbrev rmX7_dark : Room := { frames := 1, cells := 0, slots := 0, locals := 22 }
theorem cw_X7_dark : CWv RX7 yX7_dark cX7_dark 3 (some .int) 0 := ⟨q5_115, qs68, q1_8, q5_116, ⟨rfl, by decide +kernel, by decide +kernel, by decide +kernel⟩⟩
set_option maxHeartbeats 4000000 in
set_option maxRecDepth 100000 in
theorem k_X7_dark_37 {X : JX RS} {ad : Nat → Nat} (h : OK X RX7 cX7_dark rmX7_dark) (hM : IsRef X.cI X.B ad) (hnL : X.nL = 3) {res : Int32} {S : RS} {x2 : Int32} {s0 : Int32} {s1 : Int32} {K4 : Int32 → Int32 → Option (Int32)} (hK4 : ∀ (x1 : Int32) (x2 : Int32), K4 x1 x2 = some res → J X 4 [(0, .ref (ad 7)), (1, .int x1), (2, .int x2)] [] S) (hE : EXi X cX7_dark res S) (hF : f_X7_dark_37 K4 S x2 s0 s1 = some res) : J X 37 [(0, .ref (ad 7)), (2, .int x2)] [.int s0, .int s1] S := by
  rw [f_X7_dark_37] at hF
  refine j_iadd h dX7_dark_37 ?_
  refine j_let hF (fun x_4 hF => ?_)
  refine j_istore_n h hnL [(1, .int x_4), (0, .ref (ad 7)), (2, .int x2)] rfl (by decide) rfl dX7_dark_38 ?_
  refine j_iincL hF (fun x_5 ex_5 hF => ?_)
  refine j_iinc h hnL 2 [(2, .int x_5), (1, .int x_4), (0, .ref (ad 7))] rfl ex_5 (by decide) (by decide) rfl dX7_dark_39 ?_
  refine j_goto h 4 (by decide) dX7_dark_42 ?_
  exact j_sub [2, 1, 0] rfl (hK4 _ _ hF)
set_option maxHeartbeats 4000000 in
set_option maxRecDepth 100000 in
theorem k_X7_dark_4 {X : JX RS} {ad : Nat → Nat} (h : OK X RX7 cX7_dark rmX7_dark) (hM : IsRef X.cI X.B ad) (hnL : X.nL = 3) {res : Int32} {S : RS} (hE : EXi X cX7_dark res S) : ∀ (n : Nat) (x1 : Int32) (x2 : Int32), f_X7_dark_4 S n x1 x2 = some res → J X 4 [(0, .ref (ad 7)), (1, .int x1), (2, .int x2)] [] S := by
  intro n
  induction n with
  | zero =>
    intro x1 x2 hF
    rw [f_X7_dark_4] at hF
    cases hF
  | succ n ih =>
    intro x1 x2 hF
    rw [f_X7_dark_4] at hF
    refine j_iload_n h 2 rfl rfl dX7_dark_4 ?_
    refine j_aload_n h 0 rfl rfl dX7_dark_5 ?_
    refine j_get h hM.2.1.o inX7 rfl 0 (by decide) rfl q4_24 rfl dX7_dark_6 ?_
    refine j_sipush h (v := 172) (by decide) dX7_dark_9 ?_
    obtain ⟨hb_1, hF⟩ := bnd_row hF
    refine ja_iald h (get := fun S => S.1) (put := setR) (hM.1 0 (by decide)) hb_1 dX7_dark_12 ?_
    refine j_icmp_ge h 45 (by decide) dX7_dark_13 hF (fun hF => ?_) (fun hF => ?_)
    · refine j_iload_n h 1 rfl rfl dX7_dark_45 ?_
      cases hF
      exact hE _ _ dX7_dark_46
    · refine j_iload_n h 1 rfl rfl dX7_dark_16 ?_
      refine j_aload_n h 0 rfl rfl dX7_dark_17 ?_
      refine j_iload_n h 2 rfl rfl dX7_dark_18 ?_
      refine j_iconst h (v := 5) (by decide) dX7_dark_19 ?_
      obtain ⟨r_2, hr_2, hF⟩ := bind_row hF
      refine j_callVi h (st := [.int x1]) (S' := S) (c_X7_of X.l X.D X.cI X.cZ X.cV hM S x2 (5 : Int32) hr_2) rfl rfl q4_101 cw_X7_of hM.2.1.o rfl rfl rfl ⟨rfl, rfl, Nat.le_of_ble_eq_true rfl, Nat.le_of_ble_eq_true rfl⟩ _ rfl (Nat.le_of_ble_eq_true rfl) dX7_dark_20 ?_
      refine j_aload_n h 0 rfl rfl dX7_dark_23 ?_
      refine j_iload_n h 2 rfl rfl dX7_dark_24 ?_
      refine j_iconst h (v := 1) (by decide) dX7_dark_25 ?_
      obtain ⟨r_3, hr_3, hF⟩ := bind_row hF
      refine j_callVi h (st := [.int r_2, .int x1]) (S' := S) (c_X7_of X.l X.D X.cI X.cZ X.cV hM S x2 (1 : Int32) hr_3) rfl rfl q4_101 cw_X7_of hM.2.1.o rfl rfl rfl ⟨rfl, rfl, Nat.le_of_ble_eq_true rfl, Nat.le_of_ble_eq_true rfl⟩ _ rfl (Nat.le_of_ble_eq_true rfl) dX7_dark_26 ?_
      refine j_icmp_ge h 36 (by decide) dX7_dark_29 hF (fun hF => ?_) (fun hF => ?_)
      · refine j_iconst h (v := 0) (by decide) dX7_dark_36 ?_
        exact j_sub [0, 2] rfl (k_X7_dark_37 h hM hnL ih hE hF)
      · refine j_iconst h (v := 1) (by decide) dX7_dark_32 ?_
        refine j_goto h 37 (by decide) dX7_dark_33 ?_
        exact j_sub [0, 2] rfl (k_X7_dark_37 h hM hnL ih hE hF)
set_option maxHeartbeats 4000000 in
set_option maxRecDepth 100000 in
theorem k_X7_dark {X : JX RS} {ad : Nat → Nat} (h : OK X RX7 cX7_dark rmX7_dark) (hM : IsRef X.cI X.B ad) (hnL : X.nL = 3) {res : Int32} {S : RS} (hE : EXi X cX7_dark res S) (hF : f_X7_dark S = some res) : J X 0 [(0, .ref (ad 7))] [] S := by
  rw [f_X7_dark] at hF
  refine j_iconst h (v := 0) (by decide) dX7_dark_0 ?_
  refine j_istore_n h hnL [(1, .int (0 : Int32)), (0, .ref (ad 7))] rfl (by decide) rfl dX7_dark_1 ?_
  refine j_iconst h (v := 0) (by decide) dX7_dark_2 ?_
  refine j_istore_n h hnL [(2, .int (0 : Int32)), (1, .int (0 : Int32)), (0, .ref (ad 7))] rfl (by decide) rfl dX7_dark_3 ?_
  exact j_sub [2, 1, 0] rfl (k_X7_dark_4 h hM hnL hE fuel _ _ hF)
theorem c_X7_dark (l : Launch) (D : va_G) (cI cZ cV : ClassId) {B : RS → va_W} {ad : Nat → Nat} (hM : IsRef cI B ad) (S : RS) {r : Int32} (hF : f_X7_dark S = some r) : CTi l D (jtys cI cZ cV) yX7_dark cX7_dark 3 (some .int) rmX7_dark B [.ref (ad 7)] S r S := by
  refine CTi.of [(0, .ref (ad 7))] rfl (Nat.le_of_ble_eq_true rfl) (by decide) ⟨rfl, rfl⟩ (fun X e1 e2 e3 e4 e5 e6 e7 h hE => ?_)
  subst e1; subst e2; subst e3; subst e4; subst e5; subst e6
  exact k_X7_dark h hM e7 hE hF
abbrev rmX7_sheddings : Room := { frames := 0, cells := 0, slots := 0, locals := 0 }
theorem cw_X7_sheddings : CWv RX7 yX7_sheddings cX7_sheddings 1 (some .int) 0 := ⟨q5_111, qs67, q1_8, q5_112, ⟨rfl, by decide +kernel, by decide +kernel, by decide +kernel⟩⟩
set_option maxHeartbeats 4000000 in
set_option maxRecDepth 100000 in
theorem k_X7_sheddings {X : JX RS} {ad : Nat → Nat} (h : OK X RX7 cX7_sheddings rmX7_sheddings) (hM : IsRef X.cI X.B ad) (hnL : X.nL = 1) {res : Int32} {S : RS} (hE : EXi X cX7_sheddings res S) (hF : f_X7_sheddings S = some res) : J X 0 [(0, .ref (ad 7))] [] S := by
  rw [f_X7_sheddings] at hF
  refine j_aload_n h 0 rfl rfl dX7_sheddings_0 ?_
  refine j_get h hM.2.1.o inX7 rfl 0 (by decide) rfl q4_24 rfl dX7_sheddings_1 ?_
  refine j_sipush h (v := 189) (by decide) dX7_sheddings_4 ?_
  obtain ⟨hb_1, hF⟩ := bnd_row hF
  refine ja_iald h (get := fun S => S.1) (put := setR) (hM.1 0 (by decide)) hb_1 dX7_sheddings_7 ?_
  refine j_aload_n h 0 rfl rfl dX7_sheddings_8 ?_
  refine j_get h hM.2.1.o inX7 rfl 0 (by decide) rfl q4_24 rfl dX7_sheddings_9 ?_
  refine j_sipush h (v := 190) (by decide) dX7_sheddings_12 ?_
  obtain ⟨hb_2, hF⟩ := bnd_row hF
  refine ja_iald h (get := fun S => S.1) (put := setR) (hM.1 0 (by decide)) hb_2 dX7_sheddings_15 ?_
  refine j_iadd h dX7_sheddings_16 ?_
  refine j_aload_n h 0 rfl rfl dX7_sheddings_17 ?_
  refine j_get h hM.2.1.o inX7 rfl 0 (by decide) rfl q4_24 rfl dX7_sheddings_18 ?_
  refine j_sipush h (v := 191) (by decide) dX7_sheddings_21 ?_
  obtain ⟨hb_3, hF⟩ := bnd_row hF
  refine ja_iald h (get := fun S => S.1) (put := setR) (hM.1 0 (by decide)) hb_3 dX7_sheddings_24 ?_
  refine j_iadd h dX7_sheddings_25 ?_
  cases hF
  exact hE _ _ dX7_sheddings_26
theorem c_X7_sheddings (l : Launch) (D : va_G) (cI cZ cV : ClassId) {B : RS → va_W} {ad : Nat → Nat} (hM : IsRef cI B ad) (S : RS) {r : Int32} (hF : f_X7_sheddings S = some r) : CTi l D (jtys cI cZ cV) yX7_sheddings cX7_sheddings 1 (some .int) rmX7_sheddings B [.ref (ad 7)] S r S := by
  refine CTi.of [(0, .ref (ad 7))] rfl (Nat.le_of_ble_eq_true rfl) (by decide) ⟨rfl, rfl⟩ (fun X e1 e2 e3 e4 e5 e6 e7 h hE => ?_)
  subst e1; subst e2; subst e3; subst e4; subst e5; subst e6
  exact k_X7_sheddings h hM e7 hE hF
abbrev rmX7_ahead : Room := { frames := 4, cells := 0, slots := 0, locals := 91 }
theorem cw_X7_ahead : CWv RX7 yX7_ahead cX7_ahead 7 (some .int) 2 := ⟨q5_107, qs66, q1_8, q5_108, ⟨rfl, by decide +kernel, by decide +kernel, by decide +kernel⟩⟩
set_option maxHeartbeats 4000000 in
set_option maxRecDepth 100000 in
theorem k_X7_ahead_126 {X : JX RS} {ad : Nat → Nat} (h : OK X RX7 cX7_ahead rmX7_ahead) (hM : IsRef X.cI X.B ad) (hnL : X.nL = 7) {res : Int32 × RS} {S : RS} {s0 : Int32} (hE : EXi X cX7_ahead res.1 res.2) (hF : f_X7_ahead_126 S s0 = some res) : J X 126 [(0, .ref (ad 7))] [.int s0] S := by
  rw [f_X7_ahead_126] at hF
  refine j_istore h hnL [(6, .int s0), (0, .ref (ad 7))] (by decide) rfl dX7_ahead_126 ?_
  refine j_aload_n h 1 rfl rfl dX7_ahead_128 ?_
  refine j_aload_n h 1 rfl rfl dX7_ahead_129 ?_
  refine j_get h hM.2.1.o inX7 rfl 1 (by decide) rfl q4_25 rfl dX7_ahead_130 ?_
  refine j_iconst h (v := 0) (by decide) dX7_ahead_133 ?_
  refine j_aload_n h 1 rfl rfl dX7_ahead_134 ?_
  refine j_get h hM.2.1.o inX7 rfl 0 (by decide) rfl q4_24 rfl dX7_ahead_135 ?_
  refine j_iconst h (v := 0) (by decide) dX7_ahead_138 ?_
  obtain ⟨r_8, hr_8, hF⟩ := bind_row hF
  refine j_callVv h (st := []) (S' := r_8) (c_X7_copy X.l X.D X.cI X.cZ X.cV hM (by decide) (by decide) S (0 : Int32) (0 : Int32) hr_8) rfl rfl q4_86 cw_X7_copy hM.2.1.o rfl rfl rfl ⟨rfl, rfl, Nat.le_of_ble_eq_true rfl, Nat.le_of_ble_eq_true rfl⟩ _ rfl (Nat.le_of_ble_eq_true rfl) dX7_ahead_139 ?_
  refine j_iload h 0 rfl dX7_ahead_142 ?_
  cases hF
  exact hE _ _ dX7_ahead_144
set_option maxHeartbeats 4000000 in
set_option maxRecDepth 100000 in
theorem k_X7_ahead_42 {X : JX RS} {ad : Nat → Nat} (h : OK X RX7 cX7_ahead rmX7_ahead) (hM : IsRef X.cI X.B ad) (hnL : X.nL = 7) {res : Int32 × RS} {x1 : Int32} {x2 : Int32} {x3 : Int32} {x4 : Int32} {x5 : Int32} (hE : EXi X cX7_ahead res.1 res.2) : ∀ (n : Nat) (x6 : Int32) (S : RS), f_X7_ahead_42 x1 x2 x3 x4 x5 n x6 S = some res → J X 42 [(0, .ref (ad 7)), (1, .int x1), (2, .int x2), (3, .int x3), (4, .int x4), (5, .int x5), (6, .int x6)] [] S := by
  intro n
  induction n with
  | zero =>
    intro x6 S hF
    rw [f_X7_ahead_42] at hF
    cases hF
  | succ n ih =>
    intro x6 S hF
    rw [f_X7_ahead_42] at hF
    refine j_iload h 6 rfl dX7_ahead_42 ?_
    refine j_iload_n h 1 rfl rfl dX7_ahead_44 ?_
    refine j_icmp_ge h 58 (by decide) dX7_ahead_45 hF (fun hF => ?_) (fun hF => ?_)
    · refine j_iload_n h 2 rfl rfl dX7_ahead_58 ?_
      refine j_if_ne h 75 (by decide) dX7_ahead_59 hF (fun hF => ?_) (fun hF => ?_)
      · refine j_aload_n h 0 rfl rfl dX7_ahead_62 ?_
        refine j_get h hM.2.1.o inX7 rfl 0 (by decide) rfl q4_24 rfl dX7_ahead_63 ?_
        refine j_sipush h (v := 182) (by decide) dX7_ahead_66 ?_
        obtain ⟨hb_7, hF⟩ := bnd_row hF
        refine ja_iald h (get := fun S => S.1) (put := setR) (hM.1 0 (by decide)) hb_7 dX7_ahead_69 ?_
        refine j_iload_n h 3 rfl rfl dX7_ahead_70 ?_
        refine j_isub h dX7_ahead_71 ?_
        refine j_goto h 126 (by decide) dX7_ahead_72 ?_
        exact j_sub [0] rfl (k_X7_ahead_126 h hM hnL hE hF)
      · refine j_iload_n h 2 rfl rfl dX7_ahead_75 ?_
        refine j_iconst h (v := 1) (by decide) dX7_ahead_76 ?_
        refine j_icmp_ne h 90 (by decide) dX7_ahead_77 hF (fun hF => ?_) (fun hF => ?_)
        · refine j_aload_n h 0 rfl rfl dX7_ahead_80 ?_
          obtain ⟨r_9, hr_9, hF⟩ := bind_row hF
          refine j_callVi h (st := []) (S' := S) (c_X7_sheddings X.l X.D X.cI X.cZ X.cV hM S hr_9) rfl rfl q5_109 cw_X7_sheddings hM.2.1.o rfl rfl rfl ⟨rfl, rfl, Nat.le_of_ble_eq_true rfl, Nat.le_of_ble_eq_true rfl⟩ _ rfl (Nat.le_of_ble_eq_true rfl) dX7_ahead_81 ?_
          refine j_iload h 5 rfl dX7_ahead_84 ?_
          refine j_isub h dX7_ahead_86 ?_
          refine j_goto h 126 (by decide) dX7_ahead_87 ?_
          exact j_sub [0] rfl (k_X7_ahead_126 h hM hnL hE hF)
        · refine j_iload_n h 2 rfl rfl dX7_ahead_90 ?_
          refine j_iconst h (v := 2) (by decide) dX7_ahead_91 ?_
          refine j_icmp_ne h 109 (by decide) dX7_ahead_92 hF (fun hF => ?_) (fun hF => ?_)
          · refine j_aload_n h 0 rfl rfl dX7_ahead_95 ?_
            refine j_get h hM.2.1.o inX7 rfl 0 (by decide) rfl q4_24 rfl dX7_ahead_96 ?_
            refine j_sipush h (v := 184) (by decide) dX7_ahead_99 ?_
            obtain ⟨hb_10, hF⟩ := bnd_row hF
            refine ja_iald h (get := fun S => S.1) (put := setR) (hM.1 0 (by decide)) hb_10 dX7_ahead_102 ?_
            refine j_iload h 4 rfl dX7_ahead_103 ?_
            refine j_isub h dX7_ahead_105 ?_
            refine j_goto h 126 (by decide) dX7_ahead_106 ?_
            exact j_sub [0] rfl (k_X7_ahead_126 h hM hnL hE hF)
          · refine j_iload_n h 2 rfl rfl dX7_ahead_109 ?_
            refine j_iconst h (v := 3) (by decide) dX7_ahead_110 ?_
            refine j_icmp_ne h 122 (by decide) dX7_ahead_111 hF (fun hF => ?_) (fun hF => ?_)
            · refine j_aload_n h 0 rfl rfl dX7_ahead_114 ?_
              refine j_iconst h (v := 5) (by decide) dX7_ahead_115 ?_
              obtain ⟨r_11, hr_11, hF⟩ := bind_row hF
              refine j_callVi h (st := []) (S' := S) (c_X7_accountNow X.l X.D X.cI X.cZ X.cV hM S (5 : Int32) hr_11) rfl rfl q5_77 cw_X7_accountNow hM.2.1.o rfl rfl rfl ⟨rfl, rfl, Nat.le_of_ble_eq_true rfl, Nat.le_of_ble_eq_true rfl⟩ _ rfl (Nat.le_of_ble_eq_true rfl) dX7_ahead_116 ?_
              refine j_goto h 126 (by decide) dX7_ahead_119 ?_
              exact j_sub [0] rfl (k_X7_ahead_126 h hM hnL hE hF)
            · refine j_aload_n h 0 rfl rfl dX7_ahead_122 ?_
              obtain ⟨r_12, hr_12, hF⟩ := bind_row hF
              refine j_callVi h (st := []) (S' := S) (c_X7_dark X.l X.D X.cI X.cZ X.cV hM S hr_12) rfl rfl q5_113 cw_X7_dark hM.2.1.o rfl rfl rfl ⟨rfl, rfl, Nat.le_of_ble_eq_true rfl, Nat.le_of_ble_eq_true rfl⟩ _ rfl (Nat.le_of_ble_eq_true rfl) dX7_ahead_123 ?_
              exact j_sub [0] rfl (k_X7_ahead_126 h hM hnL hE hF)
    · refine j_aload_n h 0 rfl rfl dX7_ahead_48 ?_
      obtain ⟨r_13, hr_13, hF⟩ := bind_row hF
      refine j_callVv h (st := []) (S' := r_13) (c_X7_pass X.l X.D X.cI X.cZ X.cV hM S hr_13) rfl rfl q4_181 cw_X7_pass hM.2.1.o rfl rfl rfl ⟨rfl, rfl, Nat.le_of_ble_eq_true rfl, Nat.le_of_ble_eq_true rfl⟩ _ rfl (Nat.le_of_ble_eq_true rfl) dX7_ahead_49 ?_
      refine j_iincL hF (fun x_14 ex_14 hF => ?_)
      refine j_iinc h hnL 6 [(6, .int x_14), (0, .ref (ad 7)), (1, .int x1), (2, .int x2), (3, .int x3), (4, .int x4), (5, .int x5)] rfl ex_14 (by decide) (by decide) rfl dX7_ahead_52 ?_
      refine j_goto h 42 (by decide) dX7_ahead_55 ?_
      exact j_sub [1, 2, 3, 4, 5, 6, 0] rfl (ih _ _ hF)
set_option maxHeartbeats 4000000 in
set_option maxRecDepth 100000 in
theorem k_X7_ahead {X : JX RS} {ad : Nat → Nat} (h : OK X RX7 cX7_ahead rmX7_ahead) (hM : IsRef X.cI X.B ad) (hnL : X.nL = 7) {res : Int32 × RS} {S : RS} {p1 : Int32} {p2 : Int32} (hE : EXi X cX7_ahead res.1 res.2) (hF : f_X7_ahead S p1 p2 = some res) : J X 0 [(0, .ref (ad 7)), (1, .int p1), (2, .int p2)] [] S := by
  rw [f_X7_ahead] at hF
  refine j_aload_n h 0 rfl rfl dX7_ahead_0 ?_
  refine j_aload_n h 0 rfl rfl dX7_ahead_1 ?_
  refine j_get h hM.2.1.o inX7 rfl 0 (by decide) rfl q4_24 rfl dX7_ahead_2 ?_
  refine j_iconst h (v := 0) (by decide) dX7_ahead_5 ?_
  refine j_aload_n h 0 rfl rfl dX7_ahead_6 ?_
  refine j_get h hM.2.1.o inX7 rfl 1 (by decide) rfl q4_25 rfl dX7_ahead_7 ?_
  refine j_iconst h (v := 0) (by decide) dX7_ahead_10 ?_
  obtain ⟨r_1, hr_1, hF⟩ := bind_row hF
  refine j_callVv h (st := []) (S' := r_1) (c_X7_copy X.l X.D X.cI X.cZ X.cV hM (by decide) (by decide) S (0 : Int32) (0 : Int32) hr_1) rfl rfl q4_86 cw_X7_copy hM.2.1.o rfl rfl rfl ⟨rfl, rfl, Nat.le_of_ble_eq_true rfl, Nat.le_of_ble_eq_true rfl⟩ _ rfl (Nat.le_of_ble_eq_true rfl) dX7_ahead_11 ?_
  refine j_aload_n h 0 rfl rfl dX7_ahead_14 ?_
  refine j_get h hM.2.1.o inX7 rfl 0 (by decide) rfl q4_24 rfl dX7_ahead_15 ?_
  refine j_sipush h (v := 182) (by decide) dX7_ahead_18 ?_
  obtain ⟨hb_2, hF⟩ := bnd_row hF
  refine ja_iald h (get := fun S => S.1) (put := setR) (hM.1 0 (by decide)) hb_2 dX7_ahead_21 ?_
  refine j_let hF (fun x_3 hF => ?_)
  refine j_istore_n h hnL [(3, .int x_3), (0, .ref (ad 7)), (1, .int p1), (2, .int p2)] rfl (by decide) rfl dX7_ahead_22 ?_
  refine j_aload_n h 1 rfl rfl dX7_ahead_23 ?_
  refine j_get h hM.2.1.o inX7 rfl 0 (by decide) rfl q4_24 rfl dX7_ahead_24 ?_
  refine j_sipush h (v := 184) (by decide) dX7_ahead_27 ?_
  obtain ⟨hb_4, hF⟩ := bnd_row hF
  refine ja_iald h (get := fun S => S.1) (put := setR) (hM.1 0 (by decide)) hb_4 dX7_ahead_30 ?_
  refine j_let hF (fun x_5 hF => ?_)
  refine j_istore h hnL [(4, .int x_5), (3, .int x_3), (0, .ref (ad 7)), (1, .int p1), (2, .int p2)] (by decide) rfl dX7_ahead_31 ?_
  refine j_aload_n h 2 rfl rfl dX7_ahead_33 ?_
  obtain ⟨r_6, hr_6, hF⟩ := bind_row hF
  refine j_callVi h (st := []) (S' := r_1) (c_X7_sheddings X.l X.D X.cI X.cZ X.cV hM r_1 hr_6) rfl rfl q5_109 cw_X7_sheddings hM.2.1.o rfl rfl rfl ⟨rfl, rfl, Nat.le_of_ble_eq_true rfl, Nat.le_of_ble_eq_true rfl⟩ _ rfl (Nat.le_of_ble_eq_true rfl) dX7_ahead_34 ?_
  refine j_istore h hnL [(5, .int r_6), (4, .int x_5), (3, .int x_3), (0, .ref (ad 7)), (1, .int p1), (2, .int p2)] (by decide) rfl dX7_ahead_37 ?_
  refine j_iconst h (v := 0) (by decide) dX7_ahead_39 ?_
  refine j_istore h hnL [(6, .int (0 : Int32)), (5, .int r_6), (4, .int x_5), (3, .int x_3), (0, .ref (ad 7)), (1, .int p1), (2, .int p2)] (by decide) rfl dX7_ahead_40 ?_
  exact j_sub [4, 5, 6, 3, 2, 1, 0] rfl (k_X7_ahead_42 h hM hnL hE fuel _ _ hF)
theorem c_X7_ahead (l : Launch) (D : va_G) (cI cZ cV : ClassId) {B : RS → va_W} {ad : Nat → Nat} (hM : IsRef cI B ad) (S : RS) (p1 : Int32) (p2 : Int32) {r : Int32 × RS} (hF : f_X7_ahead S p1 p2 = some r) : CTi l D (jtys cI cZ cV) yX7_ahead cX7_ahead 7 (some .int) rmX7_ahead B [.ref (ad 7), .int p1, .int p2] S r.1 r.2 := by
  refine CTi.of [(0, .ref (ad 7)), (1, .int p1), (2, .int p2)] rfl (Nat.le_of_ble_eq_true rfl) (by decide) ⟨rfl, rfl⟩ (fun X e1 e2 e3 e4 e5 e6 e7 h hE => ?_)
  subst e1; subst e2; subst e3; subst e4; subst e5; subst e6
  exact k_X7_ahead h hM e7 hE hF
abbrev rmX7_ifRun : Room := { frames := 5, cells := 0, slots := 0, locals := 117 }
theorem cw_X7_ifRun : CWv RX7 yX7_ifRun cX7_ifRun 3 (some .int) 2 := ⟨q5_102, q5_103, q1_8, q5_104, ⟨rfl, by decide +kernel, by decide +kernel, by decide +kernel⟩⟩
set_option maxHeartbeats 4000000 in
set_option maxRecDepth 100000 in
theorem k_X7_ifRun {X : JX RS} {ad : Nat → Nat} (h : OK X RX7 cX7_ifRun rmX7_ifRun) (hM : IsRef X.cI X.B ad) (hnL : X.nL = 3) {res : Int32 × RS} {S : RS} {p1 : Int32} {p2 : Int32} (hE : EXi X cX7_ifRun res.1 res.2) (hF : f_X7_ifRun S p1 p2 = some res) : J X 0 [(0, .ref (ad 7)), (1, .int p1), (2, .int p2)] [] S := by
  rw [f_X7_ifRun] at hF
  refine j_iload_n h 1 rfl rfl dX7_ifRun_0 ?_
  refine j_iconst h (v := 1) (by decide) dX7_ifRun_1 ?_
  refine j_bipush h (v := 100) (by decide) dX7_ifRun_2 ?_
  obtain ⟨r_1, hr_1, hF⟩ := bind_row hF
  refine j_callSz h (st := []) (S' := S) (c_X7_within X.l X.D X.cI X.cZ X.cV (B := X.B) S p1 (1 : Int32) (100 : Int32) hr_1) rfl rfl q4_77 cw_X7_within rfl ⟨rfl, rfl, Nat.le_of_ble_eq_true rfl, Nat.le_of_ble_eq_true rfl⟩ _ rfl (Nat.le_of_ble_eq_true rfl) dX7_ifRun_4 (fun hz_r_1 => ?_)
  refine j_if_eq h 28 (by decide) dX7_ifRun_7 hF (fun hF => ?_) (fun hF => ?_)
  · refine j_ldc h (v := -1000002) q4_80 dX7_ifRun_28 ?_
    cases hF
    exact hE _ _ dX7_ifRun_30
  · refine j_iload_n h 2 rfl rfl dX7_ifRun_10 ?_
    refine j_iconst h (v := 0) (by decide) dX7_ifRun_11 ?_
    refine j_iconst h (v := 4) (by decide) dX7_ifRun_12 ?_
    obtain ⟨r_2, hr_2, hF⟩ := bind_row hF
    refine j_callSz h (st := []) (S' := S) (c_X7_within X.l X.D X.cI X.cZ X.cV (B := X.B) S p2 (0 : Int32) (4 : Int32) hr_2) rfl rfl q4_77 cw_X7_within rfl ⟨rfl, rfl, Nat.le_of_ble_eq_true rfl, Nat.le_of_ble_eq_true rfl⟩ _ rfl (Nat.le_of_ble_eq_true rfl) dX7_ifRun_13 (fun hz_r_2 => ?_)
    refine j_if_eq h 28 (by decide) dX7_ifRun_16 hF (fun hF => ?_) (fun hF => ?_)
    · refine j_ldc h (v := -1000002) q4_80 dX7_ifRun_28 ?_
      cases hF
      exact hE _ _ dX7_ifRun_30
    · refine j_aload_n h 0 rfl rfl dX7_ifRun_19 ?_
      refine j_iload_n h 1 rfl rfl dX7_ifRun_20 ?_
      refine j_iload_n h 2 rfl rfl dX7_ifRun_21 ?_
      obtain ⟨r_3, hr_3, hF⟩ := bind_row hF
      refine j_callVi h (st := []) (S' := r_3.2) (c_X7_ahead X.l X.D X.cI X.cZ X.cV hM S p1 p2 hr_3) rfl rfl q5_105 cw_X7_ahead hM.2.1.o rfl rfl rfl ⟨rfl, rfl, Nat.le_of_ble_eq_true rfl, Nat.le_of_ble_eq_true rfl⟩ _ rfl (Nat.le_of_ble_eq_true rfl) dX7_ifRun_22 ?_
      refine j_goto h 30 (by decide) dX7_ifRun_25 ?_
      cases hF
      exact hE _ _ dX7_ifRun_30
theorem c_X7_ifRun (l : Launch) (D : va_G) (cI cZ cV : ClassId) {B : RS → va_W} {ad : Nat → Nat} (hM : IsRef cI B ad) (S : RS) (p1 : Int32) (p2 : Int32) {r : Int32 × RS} (hF : f_X7_ifRun S p1 p2 = some r) : CTi l D (jtys cI cZ cV) yX7_ifRun cX7_ifRun 3 (some .int) rmX7_ifRun B [.ref (ad 7), .int p1, .int p2] S r.1 r.2 := by
  refine CTi.of [(0, .ref (ad 7)), (1, .int p1), (2, .int p2)] rfl (Nat.le_of_ble_eq_true rfl) (by decide) ⟨rfl, rfl⟩ (fun X e1 e2 e3 e4 e5 e6 e7 h hE => ?_)
  subst e1; subst e2; subst e3; subst e4; subst e5; subst e6
  exact k_X7_ifRun h hM e7 hE hF
abbrev rmX7_firstDark : Room := { frames := 4, cells := 0, slots := 0, locals := 91 }
theorem cw_X7_firstDark : CWv RX7 yX7_firstDark cX7_firstDark 5 (some .int) 2 := ⟨q5_123, qs69, q1_8, q5_124, ⟨rfl, by decide +kernel, by decide +kernel, by decide +kernel⟩⟩
set_option maxHeartbeats 4000000 in
set_option maxRecDepth 100000 in
theorem k_X7_firstDark_57 {X : JX RS} {ad : Nat → Nat} (h : OK X RX7 cX7_firstDark rmX7_firstDark) (hM : IsRef X.cI X.B ad) (hnL : X.nL = 5) {res : Int32 × RS} {S : RS} {x3 : Int32} {x4 : Int32} (hE : EXi X cX7_firstDark res.1 res.2) (hF : f_X7_firstDark_57 S x3 x4 = some res) : J X 57 [(0, .ref (ad 7)), (3, .int x3), (4, .int x4)] [] S := by
  rw [f_X7_firstDark_57] at hF
  refine j_aload_n h 0 rfl rfl dX7_firstDark_57 ?_
  refine j_aload_n h 0 rfl rfl dX7_firstDark_58 ?_
  refine j_get h hM.2.1.o inX7 rfl 1 (by decide) rfl q4_25 rfl dX7_firstDark_59 ?_
  refine j_iconst h (v := 0) (by decide) dX7_firstDark_62 ?_
  refine j_aload_n h 0 rfl rfl dX7_firstDark_63 ?_
  refine j_get h hM.2.1.o inX7 rfl 0 (by decide) rfl q4_24 rfl dX7_firstDark_64 ?_
  refine j_iconst h (v := 0) (by decide) dX7_firstDark_67 ?_
  obtain ⟨r_1, hr_1, hF⟩ := bind_row hF
  refine j_callVv h (st := []) (S' := r_1) (c_X7_copy X.l X.D X.cI X.cZ X.cV hM (by decide) (by decide) S (0 : Int32) (0 : Int32) hr_1) rfl rfl q4_86 cw_X7_copy hM.2.1.o rfl rfl rfl ⟨rfl, rfl, Nat.le_of_ble_eq_true rfl, Nat.le_of_ble_eq_true rfl⟩ _ rfl (Nat.le_of_ble_eq_true rfl) dX7_firstDark_68 ?_
  refine j_iload h 2 rfl dX7_firstDark_71 ?_
  refine j_if_eq h 80 (by decide) dX7_firstDark_73 hF (fun hF => ?_) (fun hF => ?_)
  · refine j_ldc h (v := -1000001) q4_162 dX7_firstDark_80 ?_
    cases hF
    exact hE _ _ dX7_firstDark_82
  · refine j_iload_n h 1 rfl rfl dX7_firstDark_76 ?_
    refine j_goto h 82 (by decide) dX7_firstDark_77 ?_
    cases hF
    exact hE _ _ dX7_firstDark_82
set_option maxHeartbeats 4000000 in
set_option maxRecDepth 100000 in
theorem k_X7_firstDark_52 {X : JX RS} {ad : Nat → Nat} (h : OK X RX7 cX7_firstDark rmX7_firstDark) (hM : IsRef X.cI X.B ad) (hnL : X.nL = 5) {res : Int32 × RS} {S : RS} {x1 : Int32} {x2 : Int32} {x4 : Int32} {s0 : Int32} {s1 : Int32} {K5 : Int32 → Int32 → RS → Option (Int32 × RS)} (hK5 : ∀ (x3 : Int32) (x4 : Int32) (S : RS), K5 x3 x4 S = some res → J X 5 [(0, .ref (ad 7)), (1, .int x1), (2, .int x2), (3, .int x3), (4, .int x4)] [] S) (hE : EXi X cX7_firstDark res.1 res.2) (hF : f_X7_firstDark_52 K5 S x1 x2 x4 s0 s1 = some res) : J X 52 [(0, .ref (ad 7)), (1, .int x1), (2, .int x2), (4, .int x4)] [.int s0, .int s1] S := by
  rw [f_X7_firstDark_52] at hF
  refine j_iadd h dX7_firstDark_52 ?_
  refine j_let hF (fun x_5 hF => ?_)
  refine j_istore_n h hnL [(3, .int x_5), (0, .ref (ad 7)), (1, .int x1), (2, .int x2), (4, .int x4)] rfl (by decide) rfl dX7_firstDark_53 ?_
  refine j_goto h 5 (by decide) dX7_firstDark_54 ?_
  exact j_sub [1, 2, 3, 0, 4] rfl (hK5 _ _ _ hF)
set_option maxHeartbeats 4000000 in
set_option maxRecDepth 100000 in
theorem k_X7_firstDark_39 {X : JX RS} {ad : Nat → Nat} (h : OK X RX7 cX7_firstDark rmX7_firstDark) (hM : IsRef X.cI X.B ad) (hnL : X.nL = 5) {res : Int32 × RS} {S : RS} {x1 : Int32} {x2 : Int32} {x3 : Int32} {s0 : Int32} {K5 : Int32 → Int32 → RS → Option (Int32 × RS)} (hK5 : ∀ (x3 : Int32) (x4 : Int32) (S : RS), K5 x3 x4 S = some res → J X 5 [(0, .ref (ad 7)), (1, .int x1), (2, .int x2), (3, .int x3), (4, .int x4)] [] S) (hE : EXi X cX7_firstDark res.1 res.2) (hF : f_X7_firstDark_39 K5 S x1 x2 x3 s0 = some res) : J X 39 [(0, .ref (ad 7)), (1, .int x1), (2, .int x2), (3, .int x3)] [.int s0] S := by
  rw [f_X7_firstDark_39] at hF
  refine j_istore h hnL [(4, .int s0), (0, .ref (ad 7)), (1, .int x1), (2, .int x2), (3, .int x3)] (by decide) rfl dX7_firstDark_39 ?_
  refine j_iload_n h 4 rfl rfl dX7_firstDark_41 ?_
  refine j_iload h 0 rfl dX7_firstDark_42 ?_
  refine j_if_eq h 51 (by decide) dX7_firstDark_44 hF (fun hF => ?_) (fun hF => ?_)
  · refine j_iconst h (v := 1) (by decide) dX7_firstDark_51 ?_
    exact j_sub [1, 2, 3, 0] rfl (k_X7_firstDark_52 h hM hnL hK5 hE hF)
  · refine j_iconst h (v := 0) (by decide) dX7_firstDark_47 ?_
    refine j_goto h 52 (by decide) dX7_firstDark_48 ?_
    exact j_sub [1, 2, 3, 0] rfl (k_X7_firstDark_52 h hM hnL hK5 hE hF)
set_option maxHeartbeats 4000000 in
set_option maxRecDepth 100000 in
theorem k_X7_firstDark_5 {X : JX RS} {ad : Nat → Nat} (h : OK X RX7 cX7_firstDark rmX7_firstDark) (hM : IsRef X.cI X.B ad) (hnL : X.nL = 5) {res : Int32 × RS} {x1 : Int32} {x2 : Int32} (hE : EXi X cX7_firstDark res.1 res.2) : ∀ (n : Nat) (x3 : Int32) (x4 : Int32) (S : RS), f_X7_firstDark_5 x1 x2 n x3 x4 S = some res → J X 5 [(0, .ref (ad 7)), (1, .int x1), (2, .int x2), (3, .int x3), (4, .int x4)] [] S := by
  intro n
  induction n with
  | zero =>
    intro x3 x4 S hF
    rw [f_X7_firstDark_5] at hF
    cases hF
  | succ n ih =>
    intro x3 x4 S hF
    rw [f_X7_firstDark_5] at hF
    refine j_iload_n h 3 rfl rfl dX7_firstDark_5 ?_
    refine j_iload_n h 2 rfl rfl dX7_firstDark_6 ?_
    refine j_icmp_ge h 57 (by decide) dX7_firstDark_7 hF (fun hF => ?_) (fun hF => ?_)
    · exact j_sub [0, 3, 4] rfl (k_X7_firstDark_57 h hM hnL hE hF)
    · refine j_iload h 4 rfl dX7_firstDark_10 ?_
      refine j_if_ne h 57 (by decide) dX7_firstDark_12 hF (fun hF => ?_) (fun hF => ?_)
      · refine j_aload_n h 0 rfl rfl dX7_firstDark_15 ?_
        obtain ⟨r_2, hr_2, hF⟩ := bind_row hF
        refine j_callVv h (st := []) (S' := r_2) (c_X7_pass X.l X.D X.cI X.cZ X.cV hM S hr_2) rfl rfl q4_181 cw_X7_pass hM.2.1.o rfl rfl rfl ⟨rfl, rfl, Nat.le_of_ble_eq_true rfl, Nat.le_of_ble_eq_true rfl⟩ _ rfl (Nat.le_of_ble_eq_true rfl) dX7_firstDark_16 ?_
        refine j_aload_n h 0 rfl rfl dX7_firstDark_19 ?_
        refine j_iload_n h 1 rfl rfl dX7_firstDark_20 ?_
        refine j_iconst h (v := 5) (by decide) dX7_firstDark_21 ?_
        obtain ⟨r_3, hr_3, hF⟩ := bind_row hF
        refine j_callVi h (st := []) (S' := r_2) (c_X7_of X.l X.D X.cI X.cZ X.cV hM r_2 x1 (5 : Int32) hr_3) rfl rfl q4_101 cw_X7_of hM.2.1.o rfl rfl rfl ⟨rfl, rfl, Nat.le_of_ble_eq_true rfl, Nat.le_of_ble_eq_true rfl⟩ _ rfl (Nat.le_of_ble_eq_true rfl) dX7_firstDark_22 ?_
        refine j_aload_n h 0 rfl rfl dX7_firstDark_25 ?_
        refine j_iload_n h 1 rfl rfl dX7_firstDark_26 ?_
        refine j_iconst h (v := 1) (by decide) dX7_firstDark_27 ?_
        obtain ⟨r_4, hr_4, hF⟩ := bind_row hF
        refine j_callVi h (st := [.int r_3]) (S' := r_2) (c_X7_of X.l X.D X.cI X.cZ X.cV hM r_2 x1 (1 : Int32) hr_4) rfl rfl q4_101 cw_X7_of hM.2.1.o rfl rfl rfl ⟨rfl, rfl, Nat.le_of_ble_eq_true rfl, Nat.le_of_ble_eq_true rfl⟩ _ rfl (Nat.le_of_ble_eq_true rfl) dX7_firstDark_28 ?_
        refine j_icmp_ge h 38 (by decide) dX7_firstDark_31 hF (fun hF => ?_) (fun hF => ?_)
        · refine j_iconst h (v := 0) (by decide) dX7_firstDark_38 ?_
          exact j_sub [0, 1, 2, 3] rfl (k_X7_firstDark_39 h hM hnL ih hE hF)
        · refine j_iconst h (v := 1) (by decide) dX7_firstDark_34 ?_
          refine j_goto h 39 (by decide) dX7_firstDark_35 ?_
          exact j_sub [0, 1, 2, 3] rfl (k_X7_firstDark_39 h hM hnL ih hE hF)
      · exact j_sub [0, 3, 4] rfl (k_X7_firstDark_57 h hM hnL hE hF)
set_option maxHeartbeats 4000000 in
set_option maxRecDepth 100000 in
theorem k_X7_firstDark {X : JX RS} {ad : Nat → Nat} (h : OK X RX7 cX7_firstDark rmX7_firstDark) (hM : IsRef X.cI X.B ad) (hnL : X.nL = 5) {res : Int32 × RS} {S : RS} {p1 : Int32} {p2 : Int32} (hE : EXi X cX7_firstDark res.1 res.2) (hF : f_X7_firstDark S p1 p2 = some res) : J X 0 [(0, .ref (ad 7)), (1, .int p1), (2, .int p2)] [] S := by
  rw [f_X7_firstDark] at hF
  refine j_iconst h (v := 0) (by decide) dX7_firstDark_0 ?_
  refine j_istore_n h hnL [(3, .int (0 : Int32)), (0, .ref (ad 7)), (1, .int p1), (2, .int p2)] rfl (by decide) rfl dX7_firstDark_1 ?_
  refine j_iconst h (v := 0) (by decide) dX7_firstDark_2 ?_
  refine j_istore h hnL [(4, .int (0 : Int32)), (3, .int (0 : Int32)), (0, .ref (ad 7)), (1, .int p1), (2, .int p2)] (by decide) rfl dX7_firstDark_3 ?_
  exact j_sub [2, 3, 4, 1, 0] rfl (k_X7_firstDark_5 h hM hnL hE fuel _ _ _ hF)
theorem c_X7_firstDark (l : Launch) (D : va_G) (cI cZ cV : ClassId) {B : RS → va_W} {ad : Nat → Nat} (hM : IsRef cI B ad) (S : RS) (p1 : Int32) (p2 : Int32) {r : Int32 × RS} (hF : f_X7_firstDark S p1 p2 = some r) : CTi l D (jtys cI cZ cV) yX7_firstDark cX7_firstDark 5 (some .int) rmX7_firstDark B [.ref (ad 7), .int p1, .int p2] S r.1 r.2 := by
  refine CTi.of [(0, .ref (ad 7)), (1, .int p1), (2, .int p2)] rfl (Nat.le_of_ble_eq_true rfl) (by decide) ⟨rfl, rfl⟩ (fun X e1 e2 e3 e4 e5 e6 e7 h hE => ?_)
  subst e1; subst e2; subst e3; subst e4; subst e5; subst e6
  exact k_X7_firstDark h hM e7 hE hF
abbrev rmX7_darkIn : Room := { frames := 5, cells := 0, slots := 0, locals := 115 }
theorem cw_X7_darkIn : CWv RX7 yX7_darkIn cX7_darkIn 2 (some .int) 1 := ⟨q5_118, q5_119, q1_8, q5_120, ⟨rfl, by decide +kernel, by decide +kernel, by decide +kernel⟩⟩
set_option maxHeartbeats 4000000 in
set_option maxRecDepth 100000 in
theorem k_X7_darkIn {X : JX RS} {ad : Nat → Nat} (h : OK X RX7 cX7_darkIn rmX7_darkIn) (hM : IsRef X.cI X.B ad) (hnL : X.nL = 2) {res : Int32 × RS} {S : RS} {p1 : Int32} (hE : EXi X cX7_darkIn res.1 res.2) (hF : f_X7_darkIn S p1 = some res) : J X 0 [(0, .ref (ad 7)), (1, .int p1)] [] S := by
  rw [f_X7_darkIn] at hF
  refine j_aload_n h 0 rfl rfl dX7_darkIn_0 ?_
  refine j_iload_n h 1 rfl rfl dX7_darkIn_1 ?_
  obtain ⟨r_1, hr_1, hF⟩ := bind_row hF
  refine j_callVz h (st := []) (S' := S) (c_X7_isHouse X.l X.D X.cI X.cZ X.cV hM S p1 hr_1) rfl rfl q4_94 cw_X7_isHouse hM.2.1.o rfl rfl rfl ⟨rfl, rfl, Nat.le_of_ble_eq_true rfl, Nat.le_of_ble_eq_true rfl⟩ _ rfl (Nat.le_of_ble_eq_true rfl) dX7_darkIn_2 (fun hz_r_1 => ?_)
  refine j_if_ne h 11 (by decide) dX7_darkIn_5 hF (fun hF => ?_) (fun hF => ?_)
  · refine j_ldc h (v := -1000002) q4_80 dX7_darkIn_8 ?_
    cases hF
    exact hE _ _ dX7_darkIn_10
  · refine j_aload_n h 0 rfl rfl dX7_darkIn_11 ?_
    refine j_aload_n h 0 rfl rfl dX7_darkIn_12 ?_
    refine j_get h hM.2.1.o inX7 rfl 0 (by decide) rfl q4_24 rfl dX7_darkIn_13 ?_
    refine j_iconst h (v := 0) (by decide) dX7_darkIn_16 ?_
    refine j_aload_n h 0 rfl rfl dX7_darkIn_17 ?_
    refine j_get h hM.2.1.o inX7 rfl 1 (by decide) rfl q4_25 rfl dX7_darkIn_18 ?_
    refine j_iconst h (v := 0) (by decide) dX7_darkIn_21 ?_
    obtain ⟨r_2, hr_2, hF⟩ := bind_row hF
    refine j_callVv h (st := []) (S' := r_2) (c_X7_copy X.l X.D X.cI X.cZ X.cV hM (by decide) (by decide) S (0 : Int32) (0 : Int32) hr_2) rfl rfl q4_86 cw_X7_copy hM.2.1.o rfl rfl rfl ⟨rfl, rfl, Nat.le_of_ble_eq_true rfl, Nat.le_of_ble_eq_true rfl⟩ _ rfl (Nat.le_of_ble_eq_true rfl) dX7_darkIn_22 ?_
    refine j_aload_n h 0 rfl rfl dX7_darkIn_25 ?_
    refine j_iload_n h 1 rfl rfl dX7_darkIn_26 ?_
    refine j_sipush h (v := 200) (by decide) dX7_darkIn_27 ?_
    obtain ⟨r_3, hr_3, hF⟩ := bind_row hF
    refine j_callVi h (st := []) (S' := r_3.2) (c_X7_firstDark X.l X.D X.cI X.cZ X.cV hM r_2 p1 (200 : Int32) hr_3) rfl rfl q5_121 cw_X7_firstDark hM.2.1.o rfl rfl rfl ⟨rfl, rfl, Nat.le_of_ble_eq_true rfl, Nat.le_of_ble_eq_true rfl⟩ _ rfl (Nat.le_of_ble_eq_true rfl) dX7_darkIn_30 ?_
    cases hF
    exact hE _ _ dX7_darkIn_33
theorem c_X7_darkIn (l : Launch) (D : va_G) (cI cZ cV : ClassId) {B : RS → va_W} {ad : Nat → Nat} (hM : IsRef cI B ad) (S : RS) (p1 : Int32) {r : Int32 × RS} (hF : f_X7_darkIn S p1 = some r) : CTi l D (jtys cI cZ cV) yX7_darkIn cX7_darkIn 2 (some .int) rmX7_darkIn B [.ref (ad 7), .int p1] S r.1 r.2 := by
  refine CTi.of [(0, .ref (ad 7)), (1, .int p1)] rfl (Nat.le_of_ble_eq_true rfl) (by decide) ⟨rfl, rfl⟩ (fun X e1 e2 e3 e4 e5 e6 e7 h hE => ?_)
  subst e1; subst e2; subst e3; subst e4; subst e5; subst e6
  exact k_X7_darkIn h hM e7 hE hF
abbrev rmX7_tokenFor : Room := { frames := 5, cells := 0, slots := 0, locals := 115 }
theorem cw_X7_tokenFor : CWv RX7 yX7_tokenFor cX7_tokenFor 5 (some .int) 2 := ⟨q5_126, q5_127, q1_8, q5_128, ⟨rfl, by decide +kernel, by decide +kernel, by decide +kernel⟩⟩
set_option maxHeartbeats 4000000 in
set_option maxRecDepth 100000 in
theorem k_X7_tokenFor_95 {X : JX RS} {ad : Nat → Nat} (h : OK X RX7 cX7_tokenFor rmX7_tokenFor) (hM : IsRef X.cI X.B ad) (hnL : X.nL = 5) {res : Int32 × RS} {S : RS} {x1 : Int32} {x2 : Int32} {x4 : Int32} {s0 : Int32} {K56 : Int32 → Int32 → RS → Option (Int32 × RS)} (hK56 : ∀ (x3 : Int32) (x4 : Int32) (S : RS), K56 x3 x4 S = some res → J X 56 [(0, .ref (ad 7)), (1, .int x1), (2, .int x2), (3, .int x3), (4, .int x4)] [] S) (hE : EXi X cX7_tokenFor res.1 res.2) (hF : f_X7_tokenFor_95 K56 S x1 x2 x4 s0 = some res) : J X 95 [(0, .ref (ad 7)), (1, .int x1), (2, .int x2), (4, .int x4)] [.int s0] S := by
  rw [f_X7_tokenFor_95] at hF
  refine j_istore_n h hnL [(3, .int s0), (0, .ref (ad 7)), (1, .int x1), (2, .int x2), (4, .int x4)] rfl (by decide) rfl dX7_tokenFor_95 ?_
  refine j_iincL hF (fun x_7 ex_7 hF => ?_)
  refine j_iinc h hnL 4 [(4, .int x_7), (3, .int s0), (0, .ref (ad 7)), (1, .int x1), (2, .int x2)] rfl ex_7 (by decide) (by decide) rfl dX7_tokenFor_96 ?_
  refine j_goto h 56 (by decide) dX7_tokenFor_99 ?_
  exact j_sub [2, 3, 4, 1, 0] rfl (hK56 _ _ _ hF)
set_option maxHeartbeats 4000000 in
set_option maxRecDepth 100000 in
theorem k_X7_tokenFor_56 {X : JX RS} {ad : Nat → Nat} (h : OK X RX7 cX7_tokenFor rmX7_tokenFor) (hM : IsRef X.cI X.B ad) (hnL : X.nL = 5) {res : Int32 × RS} {x1 : Int32} {x2 : Int32} (hE : EXi X cX7_tokenFor res.1 res.2) : ∀ (n : Nat) (x3 : Int32) (x4 : Int32) (S : RS), f_X7_tokenFor_56 x1 x2 n x3 x4 S = some res → J X 56 [(0, .ref (ad 7)), (1, .int x1), (2, .int x2), (3, .int x3), (4, .int x4)] [] S := by
  intro n
  induction n with
  | zero =>
    intro x3 x4 S hF
    rw [f_X7_tokenFor_56] at hF
    cases hF
  | succ n ih =>
    intro x3 x4 S hF
    rw [f_X7_tokenFor_56] at hF
    refine j_iload h 4 rfl dX7_tokenFor_56 ?_
    refine j_sipush h (v := 500) (by decide) dX7_tokenFor_58 ?_
    refine j_icmp_gt h 102 (by decide) dX7_tokenFor_61 hF (fun hF => ?_) (fun hF => ?_)
    · refine j_iload_n h 3 rfl rfl dX7_tokenFor_102 ?_
      cases hF
      exact hE _ _ dX7_tokenFor_103
    · refine j_iload_n h 3 rfl rfl dX7_tokenFor_64 ?_
      refine j_ldc h (v := -1000001) q4_162 dX7_tokenFor_65 ?_
      refine j_icmp_ne h 102 (by decide) dX7_tokenFor_67 hF (fun hF => ?_) (fun hF => ?_)
      · refine j_aload_n h 0 rfl rfl dX7_tokenFor_70 ?_
        refine j_iload_n h 1 rfl rfl dX7_tokenFor_71 ?_
        refine j_iload h 4 rfl dX7_tokenFor_72 ?_
        obtain ⟨r_5, hr_5, hF⟩ := bind_row hF
        refine j_callVv h (st := []) (S' := r_5) (c_X7_token X.l X.D X.cI X.cZ X.cV hM S x1 x4 hr_5) rfl rfl q4_122 cw_X7_token hM.2.1.o rfl rfl rfl ⟨rfl, rfl, Nat.le_of_ble_eq_true rfl, Nat.le_of_ble_eq_true rfl⟩ _ rfl (Nat.le_of_ble_eq_true rfl) dX7_tokenFor_74 ?_
        refine j_aload_n h 0 rfl rfl dX7_tokenFor_77 ?_
        refine j_iload_n h 1 rfl rfl dX7_tokenFor_78 ?_
        refine j_iload_n h 2 rfl rfl dX7_tokenFor_79 ?_
        obtain ⟨r_6, hr_6, hF⟩ := bind_row hF
        refine j_callVi h (st := []) (S' := r_6.2) (c_X7_firstDark X.l X.D X.cI X.cZ X.cV hM r_5 x1 x2 hr_6) rfl rfl q5_121 cw_X7_firstDark hM.2.1.o rfl rfl rfl ⟨rfl, rfl, Nat.le_of_ble_eq_true rfl, Nat.le_of_ble_eq_true rfl⟩ _ rfl (Nat.le_of_ble_eq_true rfl) dX7_tokenFor_80 ?_
        refine j_ldc h (v := -1000001) q4_162 dX7_tokenFor_83 ?_
        refine j_icmp_ne h 93 (by decide) dX7_tokenFor_85 hF (fun hF => ?_) (fun hF => ?_)
        · refine j_iload h 4 rfl dX7_tokenFor_88 ?_
          refine j_goto h 95 (by decide) dX7_tokenFor_90 ?_
          exact j_sub [0, 1, 2, 4] rfl (k_X7_tokenFor_95 h hM hnL ih hE hF)
        · refine j_ldc h (v := -1000001) q4_162 dX7_tokenFor_93 ?_
          exact j_sub [0, 1, 2, 4] rfl (k_X7_tokenFor_95 h hM hnL ih hE hF)
      · refine j_iload_n h 3 rfl rfl dX7_tokenFor_102 ?_
        cases hF
        exact hE _ _ dX7_tokenFor_103
set_option maxHeartbeats 4000000 in
set_option maxRecDepth 100000 in
theorem k_X7_tokenFor_52 {X : JX RS} {ad : Nat → Nat} (h : OK X RX7 cX7_tokenFor rmX7_tokenFor) (hM : IsRef X.cI X.B ad) (hnL : X.nL = 5) {res : Int32 × RS} {S : RS} {x1 : Int32} {x2 : Int32} {s0 : Int32} (hE : EXi X cX7_tokenFor res.1 res.2) (hF : f_X7_tokenFor_52 S x1 x2 s0 = some res) : J X 52 [(0, .ref (ad 7)), (1, .int x1), (2, .int x2)] [.int s0] S := by
  rw [f_X7_tokenFor_52] at hF
  refine j_istore_n h hnL [(3, .int s0), (0, .ref (ad 7)), (1, .int x1), (2, .int x2)] rfl (by decide) rfl dX7_tokenFor_52 ?_
  refine j_iconst h (v := 1) (by decide) dX7_tokenFor_53 ?_
  refine j_istore h hnL [(4, .int (1 : Int32)), (3, .int s0), (0, .ref (ad 7)), (1, .int x1), (2, .int x2)] (by decide) rfl dX7_tokenFor_54 ?_
  exact j_sub [2, 3, 4, 1, 0] rfl (k_X7_tokenFor_56 h hM hnL hE fuel _ _ _ hF)
set_option maxHeartbeats 4000000 in
set_option maxRecDepth 100000 in
theorem k_X7_tokenFor {X : JX RS} {ad : Nat → Nat} (h : OK X RX7 cX7_tokenFor rmX7_tokenFor) (hM : IsRef X.cI X.B ad) (hnL : X.nL = 5) {res : Int32 × RS} {S : RS} {p1 : Int32} {p2 : Int32} (hE : EXi X cX7_tokenFor res.1 res.2) (hF : f_X7_tokenFor S p1 p2 = some res) : J X 0 [(0, .ref (ad 7)), (1, .int p1), (2, .int p2)] [] S := by
  rw [f_X7_tokenFor] at hF
  refine j_aload_n h 0 rfl rfl dX7_tokenFor_0 ?_
  refine j_iload_n h 1 rfl rfl dX7_tokenFor_1 ?_
  obtain ⟨r_1, hr_1, hF⟩ := bind_row hF
  refine j_callVz h (st := []) (S' := S) (c_X7_isHouse X.l X.D X.cI X.cZ X.cV hM S p1 hr_1) rfl rfl q4_94 cw_X7_isHouse hM.2.1.o rfl rfl rfl ⟨rfl, rfl, Nat.le_of_ble_eq_true rfl, Nat.le_of_ble_eq_true rfl⟩ _ rfl (Nat.le_of_ble_eq_true rfl) dX7_tokenFor_2 (fun hz_r_1 => ?_)
  refine j_if_eq h 18 (by decide) dX7_tokenFor_5 hF (fun hF => ?_) (fun hF => ?_)
  · refine j_ldc h (v := -1000002) q4_80 dX7_tokenFor_18 ?_
    cases hF
    exact hE _ _ dX7_tokenFor_20
  · refine j_iload_n h 2 rfl rfl dX7_tokenFor_8 ?_
    refine j_iconst h (v := 1) (by decide) dX7_tokenFor_9 ?_
    refine j_bipush h (v := 48) (by decide) dX7_tokenFor_10 ?_
    obtain ⟨r_2, hr_2, hF⟩ := bind_row hF
    refine j_callSz h (st := []) (S' := S) (c_X7_within X.l X.D X.cI X.cZ X.cV (B := X.B) S p2 (1 : Int32) (48 : Int32) hr_2) rfl rfl q4_77 cw_X7_within rfl ⟨rfl, rfl, Nat.le_of_ble_eq_true rfl, Nat.le_of_ble_eq_true rfl⟩ _ rfl (Nat.le_of_ble_eq_true rfl) dX7_tokenFor_12 (fun hz_r_2 => ?_)
    refine j_if_ne h 21 (by decide) dX7_tokenFor_15 hF (fun hF => ?_) (fun hF => ?_)
    · refine j_ldc h (v := -1000002) q4_80 dX7_tokenFor_18 ?_
      cases hF
      exact hE _ _ dX7_tokenFor_20
    · refine j_aload_n h 0 rfl rfl dX7_tokenFor_21 ?_
      refine j_aload_n h 0 rfl rfl dX7_tokenFor_22 ?_
      refine j_get h hM.2.1.o inX7 rfl 0 (by decide) rfl q4_24 rfl dX7_tokenFor_23 ?_
      refine j_iconst h (v := 0) (by decide) dX7_tokenFor_26 ?_
      refine j_aload_n h 0 rfl rfl dX7_tokenFor_27 ?_
      refine j_get h hM.2.1.o inX7 rfl 1 (by decide) rfl q4_25 rfl dX7_tokenFor_28 ?_
      refine j_iconst h (v := 0) (by decide) dX7_tokenFor_31 ?_
      obtain ⟨r_3, hr_3, hF⟩ := bind_row hF
      refine j_callVv h (st := []) (S' := r_3) (c_X7_copy X.l X.D X.cI X.cZ X.cV hM (by decide) (by decide) S (0 : Int32) (0 : Int32) hr_3) rfl rfl q4_86 cw_X7_copy hM.2.1.o rfl rfl rfl ⟨rfl, rfl, Nat.le_of_ble_eq_true rfl, Nat.le_of_ble_eq_true rfl⟩ _ rfl (Nat.le_of_ble_eq_true rfl) dX7_tokenFor_32 ?_
      refine j_aload_n h 0 rfl rfl dX7_tokenFor_35 ?_
      refine j_iload_n h 1 rfl rfl dX7_tokenFor_36 ?_
      refine j_iload_n h 2 rfl rfl dX7_tokenFor_37 ?_
      obtain ⟨r_4, hr_4, hF⟩ := bind_row hF
      refine j_callVi h (st := []) (S' := r_4.2) (c_X7_firstDark X.l X.D X.cI X.cZ X.cV hM r_3 p1 p2 hr_4) rfl rfl q5_121 cw_X7_firstDark hM.2.1.o rfl rfl rfl ⟨rfl, rfl, Nat.le_of_ble_eq_true rfl, Nat.le_of_ble_eq_true rfl⟩ _ rfl (Nat.le_of_ble_eq_true rfl) dX7_tokenFor_38 ?_
      refine j_ldc h (v := -1000001) q4_162 dX7_tokenFor_41 ?_
      refine j_icmp_ne h 50 (by decide) dX7_tokenFor_43 hF (fun hF => ?_) (fun hF => ?_)
      · refine j_iconst h (v := 0) (by decide) dX7_tokenFor_46 ?_
        refine j_goto h 52 (by decide) dX7_tokenFor_47 ?_
        exact j_sub [0, 1, 2] rfl (k_X7_tokenFor_52 h hM hnL hE hF)
      · refine j_ldc h (v := -1000001) q4_162 dX7_tokenFor_50 ?_
        exact j_sub [0, 1, 2] rfl (k_X7_tokenFor_52 h hM hnL hE hF)
theorem c_X7_tokenFor (l : Launch) (D : va_G) (cI cZ cV : ClassId) {B : RS → va_W} {ad : Nat → Nat} (hM : IsRef cI B ad) (S : RS) (p1 : Int32) (p2 : Int32) {r : Int32 × RS} (hF : f_X7_tokenFor S p1 p2 = some r) : CTi l D (jtys cI cZ cV) yX7_tokenFor cX7_tokenFor 5 (some .int) rmX7_tokenFor B [.ref (ad 7), .int p1, .int p2] S r.1 r.2 := by
  refine CTi.of [(0, .ref (ad 7)), (1, .int p1), (2, .int p2)] rfl (Nat.le_of_ble_eq_true rfl) (by decide) ⟨rfl, rfl⟩ (fun X e1 e2 e3 e4 e5 e6 e7 h hE => ?_)
  subst e1; subst e2; subst e3; subst e4; subst e5; subst e6
  exact k_X7_tokenFor h hM e7 hE hF
abbrev rmX7_met : Room := { frames := 1, cells := 0, slots := 0, locals := 22 }
theorem cw_X7_met : CWv RX7 yX7_met cX7_met 4 (some .double) 0 := ⟨q5_130, q5_131, q1_8, q5_132, ⟨rfl, by decide +kernel, by decide +kernel, by decide +kernel⟩⟩
set_option maxHeartbeats 4000000 in
set_option maxRecDepth 100000 in
theorem k_X7_met_6 {X : JX RS} {ad : Nat → Nat} (h : OK X RX7 cX7_met rmX7_met) (hM : IsRef X.cI X.B ad) (hnL : X.nL = 4) {res : UInt64} {S : RS} (hE : EXd X cX7_met res S) : ∀ (n : Nat) (x1 : Int32) (x2 : Int32) (x3 : Int32), f_X7_met_6 S n x1 x2 x3 = some res → J X 6 [(0, .ref (ad 7)), (1, .int x1), (2, .int x2), (3, .int x3)] [] S := by
  intro n
  induction n with
  | zero =>
    intro x1 x2 x3 hF
    rw [f_X7_met_6] at hF
    cases hF
  | succ n ih =>
    intro x1 x2 x3 hF
    rw [f_X7_met_6] at hF
    refine j_iload_n h 3 rfl rfl dX7_met_6 ?_
    refine j_aload_n h 0 rfl rfl dX7_met_7 ?_
    refine j_get h hM.2.1.o inX7 rfl 0 (by decide) rfl q4_24 rfl dX7_met_8 ?_
    refine j_sipush h (v := 172) (by decide) dX7_met_11 ?_
    obtain ⟨hb_1, hF⟩ := bnd_row hF
    refine ja_iald h (get := fun S => S.1) (put := setR) (hM.1 0 (by decide)) hb_1 dX7_met_14 ?_
    refine j_icmp_ge h 42 (by decide) dX7_met_15 hF (fun hF => ?_) (fun hF => ?_)
    · refine j_iload_n h 2 rfl rfl dX7_met_42 ?_
      refine j_if_ne h 50 (by decide) dX7_met_43 hF (fun hF => ?_) (fun hF => ?_)
      · refine j_dconst1 h dX7_met_46 ?_
        refine j_goto h 55 (by decide) dX7_met_47 ?_
        cases hF
        exact hE _ _ dX7_met_55
      · refine j_iload_n h 1 rfl rfl dX7_met_50 ?_
        refine j_i2d h dX7_met_51 ?_
        refine j_iload_n h 2 rfl rfl dX7_met_52 ?_
        refine j_i2d h dX7_met_53 ?_
        obtain ⟨hb_2, hF⟩ := bnd_row hF
        refine j_ddiv h (n64_v hb_2) dX7_met_54 ?_
        cases hF
        exact hE _ _ dX7_met_55
    · refine j_iload_n h 1 rfl rfl dX7_met_18 ?_
      refine j_aload_n h 0 rfl rfl dX7_met_19 ?_
      refine j_iload_n h 3 rfl rfl dX7_met_20 ?_
      refine j_iconst h (v := 5) (by decide) dX7_met_21 ?_
      obtain ⟨r_3, hr_3, hF⟩ := bind_row hF
      refine j_callVi h (st := [.int x1]) (S' := S) (c_X7_of X.l X.D X.cI X.cZ X.cV hM S x3 (5 : Int32) hr_3) rfl rfl q4_101 cw_X7_of hM.2.1.o rfl rfl rfl ⟨rfl, rfl, Nat.le_of_ble_eq_true rfl, Nat.le_of_ble_eq_true rfl⟩ _ rfl (Nat.le_of_ble_eq_true rfl) dX7_met_22 ?_
      refine j_iadd h dX7_met_25 ?_
      refine j_let hF (fun x_4 hF => ?_)
      refine j_istore_n h hnL [(1, .int x_4), (0, .ref (ad 7)), (2, .int x2), (3, .int x3)] rfl (by decide) rfl dX7_met_26 ?_
      refine j_iload_n h 2 rfl rfl dX7_met_27 ?_
      refine j_aload_n h 1 rfl rfl dX7_met_28 ?_
      refine j_iload_n h 3 rfl rfl dX7_met_29 ?_
      refine j_iconst h (v := 1) (by decide) dX7_met_30 ?_
      obtain ⟨r_5, hr_5, hF⟩ := bind_row hF
      refine j_callVi h (st := [.int x2]) (S' := S) (c_X7_of X.l X.D X.cI X.cZ X.cV hM S x3 (1 : Int32) hr_5) rfl rfl q4_101 cw_X7_of hM.2.1.o rfl rfl rfl ⟨rfl, rfl, Nat.le_of_ble_eq_true rfl, Nat.le_of_ble_eq_true rfl⟩ _ rfl (Nat.le_of_ble_eq_true rfl) dX7_met_31 ?_
      refine j_iadd h dX7_met_34 ?_
      refine j_let hF (fun x_6 hF => ?_)
      refine j_istore_n h hnL [(2, .int x_6), (1, .int x_4), (0, .ref (ad 7)), (3, .int x3)] rfl (by decide) rfl dX7_met_35 ?_
      refine j_iincL hF (fun x_7 ex_7 hF => ?_)
      refine j_iinc h hnL 3 [(3, .int x_7), (2, .int x_6), (1, .int x_4), (0, .ref (ad 7))] rfl ex_7 (by decide) (by decide) rfl dX7_met_36 ?_
      refine j_goto h 6 (by decide) dX7_met_39 ?_
      exact j_sub [3, 2, 1, 0] rfl (ih _ _ _ hF)
set_option maxHeartbeats 4000000 in
set_option maxRecDepth 100000 in
theorem k_X7_met {X : JX RS} {ad : Nat → Nat} (h : OK X RX7 cX7_met rmX7_met) (hM : IsRef X.cI X.B ad) (hnL : X.nL = 4) {res : UInt64} {S : RS} (hE : EXd X cX7_met res S) (hF : f_X7_met S = some res) : J X 0 [(0, .ref (ad 7))] [] S := by
  rw [f_X7_met] at hF
  refine j_iconst h (v := 0) (by decide) dX7_met_0 ?_
  refine j_istore_n h hnL [(1, .int (0 : Int32)), (0, .ref (ad 7))] rfl (by decide) rfl dX7_met_1 ?_
  refine j_iconst h (v := 0) (by decide) dX7_met_2 ?_
  refine j_istore_n h hnL [(2, .int (0 : Int32)), (1, .int (0 : Int32)), (0, .ref (ad 7))] rfl (by decide) rfl dX7_met_3 ?_
  refine j_iconst h (v := 0) (by decide) dX7_met_4 ?_
  refine j_istore_n h hnL [(3, .int (0 : Int32)), (2, .int (0 : Int32)), (1, .int (0 : Int32)), (0, .ref (ad 7))] rfl (by decide) rfl dX7_met_5 ?_
  exact j_sub [3, 2, 1, 0] rfl (k_X7_met_6 h hM hnL hE fuel _ _ _ hF)
theorem c_X7_met (l : Launch) (D : va_G) (cI cZ cV : ClassId) {B : RS → va_W} {ad : Nat → Nat} (hM : IsRef cI B ad) (S : RS) {r : UInt64} (hF : f_X7_met S = some r) : CTd l D (jtys cI cZ cV) yX7_met cX7_met 4 (some .double) rmX7_met B [.ref (ad 7)] S r S := by
  refine CTd.of [(0, .ref (ad 7))] rfl (Nat.le_of_ble_eq_true rfl) (by decide) ⟨rfl, rfl⟩ (fun X e1 e2 e3 e4 e5 e6 e7 h hE => ?_)
  subst e1; subst e2; subst e3; subst e4; subst e5; subst e6
  exact k_X7_met h hM e7 hE hF
abbrev rmX7_mix : Room := { frames := 0, cells := 0, slots := 0, locals := 0 }
theorem cw_X7_mix : CWv RX7 yX7_mix cX7_mix 3 none 1 := ⟨q5_140, qs70, q1_8, q5_141, ⟨rfl, by decide +kernel, by decide +kernel, by decide +kernel⟩⟩
set_option maxHeartbeats 4000000 in
set_option maxRecDepth 100000 in
theorem k_X7_mix {X : JX RS} {ad : Nat → Nat} (h : OK X RX7 cX7_mix rmX7_mix) (hM : IsRef X.cI X.B ad) (hnL : X.nL = 3) {res : RS} {S : RS} {p1 : Int64} (hE : EXv X cX7_mix res) (hF : f_X7_mix S p1 = some res) : J X 0 [(0, .ref (ad 7)), (1, .long p1)] [] S := by
  rw [f_X7_mix] at hF
  refine j_aload_n h 0 rfl rfl dX7_mix_0 ?_
  refine j_ldc2 h (v := 31) q5_142 dX7_mix_1 ?_
  refine j_aload_n h 0 rfl rfl dX7_mix_4 ?_
  refine j_get h hM.2.1.o inX7 rfl 15 (by decide) rfl q4_39 rfl dX7_mix_5 ?_
  refine j_lmul h dX7_mix_8 ?_
  refine j_lload_n h 1 rfl rfl dX7_mix_9 ?_
  refine j_ladd h dX7_mix_10 ?_
  refine j_putl h (hM.2.2.2.2.2.2.2.2.2) inX7 tyX7_ok nmX7 rfl (by decide) rfl q4_39 (Nat.le_of_ble_eq_true rfl) dX7_mix_11 ?_
  refine j_letS hF (fun S_1 hF => ?_)
  cases hF
  exact hE _ _ dX7_mix_14
theorem c_X7_mix (l : Launch) (D : va_G) (cI cZ cV : ClassId) {B : RS → va_W} {ad : Nat → Nat} (hM : IsRef cI B ad) (S : RS) (p1 : Int64) {r : RS} (hF : f_X7_mix S p1 = some r) : CTv l D (jtys cI cZ cV) yX7_mix cX7_mix 3 none rmX7_mix B [.ref (ad 7), .long p1] S r := by
  refine CTv.of [(0, .ref (ad 7)), (1, .long p1)] rfl (Nat.le_of_ble_eq_true rfl) (by decide) ⟨rfl, rfl⟩ (fun X e1 e2 e3 e4 e5 e6 e7 h hE => ?_)
  subst e1; subst e2; subst e3; subst e4; subst e5; subst e6
  exact k_X7_mix h hM e7 hE hF
abbrev rmX7_mixThings : Room := { frames := 4, cells := 0, slots := 0, locals := 91 }
theorem cw_X7_mixThings : CWv RX7 yX7_mixThings cX7_mixThings 2 none 0 := ⟨q5_145, qs71, q1_8, q5_146, ⟨rfl, by decide +kernel, by decide +kernel, by decide +kernel⟩⟩
set_option maxHeartbeats 4000000 in
set_option maxRecDepth 100000 in
theorem k_X7_mixThings_136 {X : JX RS} {ad : Nat → Nat} (h : OK X RX7 cX7_mixThings rmX7_mixThings) (hM : IsRef X.cI X.B ad) (hnL : X.nL = 2) {res : RS} (hE : EXv X cX7_mixThings res) : ∀ (n : Nat) (x1 : Int32) (S : RS), f_X7_mixThings_136 n x1 S = some res → J X 136 [(0, .ref (ad 7)), (1, .int x1)] [] S := by
  intro n
  induction n with
  | zero =>
    intro x1 S hF
    rw [f_X7_mixThings_136] at hF
    cases hF
  | succ n ih =>
    intro x1 S hF
    rw [f_X7_mixThings_136] at hF
    refine j_iload_n h 1 rfl rfl dX7_mixThings_136 ?_
    refine j_aload_n h 0 rfl rfl dX7_mixThings_137 ?_
    refine j_get h hM.2.1.o inX7 rfl 0 (by decide) rfl q4_24 rfl dX7_mixThings_138 ?_
    refine j_sipush h (v := 175) (by decide) dX7_mixThings_141 ?_
    obtain ⟨hb_3, hF⟩ := bnd_row hF
    refine ja_iald h (get := fun S => S.1) (put := setR) (hM.1 0 (by decide)) hb_3 dX7_mixThings_144 ?_
    refine j_icmp_ge h 168 (by decide) dX7_mixThings_145 hF (fun hF => ?_) (fun hF => ?_)
    · cases hF
      exact hE _ _ dX7_mixThings_168
    · refine j_aload_n h 0 rfl rfl dX7_mixThings_148 ?_
      refine j_aload_n h 0 rfl rfl dX7_mixThings_149 ?_
      refine j_get h hM.2.1.o inX7 rfl 0 (by decide) rfl q4_24 rfl dX7_mixThings_150 ?_
      refine j_bipush h (v := 124) (by decide) dX7_mixThings_153 ?_
      refine j_iload_n h 1 rfl rfl dX7_mixThings_155 ?_
      refine j_iadd h dX7_mixThings_156 ?_
      obtain ⟨hb_4, hF⟩ := bnd_row hF
      refine ja_iald h (get := fun S => S.1) (put := setR) (hM.1 0 (by decide)) hb_4 dX7_mixThings_157 ?_
      refine j_i2l h dX7_mixThings_158 ?_
      obtain ⟨r_5, hr_5, hF⟩ := bind_row hF
      refine j_callVv h (st := []) (S' := r_5) (c_X7_mix X.l X.D X.cI X.cZ X.cV hM S ((rd S.1 0 ((124 : Int32) + x1)).toInt64) hr_5) rfl rfl q5_138 cw_X7_mix hM.2.1.o rfl rfl rfl ⟨rfl, rfl, Nat.le_of_ble_eq_true rfl, Nat.le_of_ble_eq_true rfl⟩ _ rfl (Nat.le_of_ble_eq_true rfl) dX7_mixThings_159 ?_
      refine j_iincL hF (fun x_6 ex_6 hF => ?_)
      refine j_iinc h hnL 1 [(1, .int x_6), (0, .ref (ad 7))] rfl ex_6 (by decide) (by decide) rfl dX7_mixThings_162 ?_
      refine j_goto h 136 (by decide) dX7_mixThings_165 ?_
      exact j_sub [1, 0] rfl (ih _ _ hF)
set_option maxHeartbeats 4000000 in
set_option maxRecDepth 100000 in
theorem k_X7_mixThings_107 {X : JX RS} {ad : Nat → Nat} (h : OK X RX7 cX7_mixThings rmX7_mixThings) (hM : IsRef X.cI X.B ad) (hnL : X.nL = 2) {res : RS} (hE : EXv X cX7_mixThings res) : ∀ (n : Nat) (x1 : Int32) (S : RS), f_X7_mixThings_107 n x1 S = some res → J X 107 [(0, .ref (ad 7)), (1, .int x1)] [] S := by
  intro n
  induction n with
  | zero =>
    intro x1 S hF
    rw [f_X7_mixThings_107] at hF
    cases hF
  | succ n ih =>
    intro x1 S hF
    rw [f_X7_mixThings_107] at hF
    refine j_iload_n h 1 rfl rfl dX7_mixThings_107 ?_
    refine j_bipush h (v := 15) (by decide) dX7_mixThings_108 ?_
    refine j_icmp_ge h 134 (by decide) dX7_mixThings_110 hF (fun hF => ?_) (fun hF => ?_)
    · refine j_iconst h (v := 0) (by decide) dX7_mixThings_134 ?_
      refine j_istore_n h hnL [(1, .int (0 : Int32)), (0, .ref (ad 7))] rfl (by decide) rfl dX7_mixThings_135 ?_
      exact j_sub [1, 0] rfl (k_X7_mixThings_136 h hM hnL hE fuel _ _ hF)
    · refine j_aload_n h 0 rfl rfl dX7_mixThings_113 ?_
      refine j_aload_n h 0 rfl rfl dX7_mixThings_114 ?_
      refine j_iload_n h 1 rfl rfl dX7_mixThings_115 ?_
      refine j_iconst h (v := 5) (by decide) dX7_mixThings_116 ?_
      refine j_idiv h (by decide) dX7_mixThings_117 ?_
      refine j_iload_n h 1 rfl rfl dX7_mixThings_118 ?_
      refine j_iconst h (v := 5) (by decide) dX7_mixThings_119 ?_
      refine j_irem h (by decide) dX7_mixThings_120 ?_
      obtain ⟨r_7, hr_7, hF⟩ := bind_row hF
      refine j_callVi h (st := [.ref (ad 7)]) (S' := S) (c_X7_feederNow X.l X.D X.cI X.cZ X.cV hM S (x1 / (5 : Int32)) (x1 - x1 / (5 : Int32) * (5 : Int32)) hr_7) rfl rfl q5_65 cw_X7_feederNow hM.2.1.o rfl rfl rfl ⟨rfl, rfl, Nat.le_of_ble_eq_true rfl, Nat.le_of_ble_eq_true rfl⟩ _ rfl (Nat.le_of_ble_eq_true rfl) dX7_mixThings_121 ?_
      refine j_i2l h dX7_mixThings_124 ?_
      obtain ⟨r_8, hr_8, hF⟩ := bind_row hF
      refine j_callVv h (st := []) (S' := r_8) (c_X7_mix X.l X.D X.cI X.cZ X.cV hM S r_7.toInt64 hr_8) rfl rfl q5_138 cw_X7_mix hM.2.1.o rfl rfl rfl ⟨rfl, rfl, Nat.le_of_ble_eq_true rfl, Nat.le_of_ble_eq_true rfl⟩ _ rfl (Nat.le_of_ble_eq_true rfl) dX7_mixThings_125 ?_
      refine j_iincL hF (fun x_9 ex_9 hF => ?_)
      refine j_iinc h hnL 1 [(1, .int x_9), (0, .ref (ad 7))] rfl ex_9 (by decide) (by decide) rfl dX7_mixThings_128 ?_
      refine j_goto h 107 (by decide) dX7_mixThings_131 ?_
      exact j_sub [1, 0] rfl (ih _ _ hF)
set_option maxHeartbeats 4000000 in
set_option maxRecDepth 100000 in
theorem k_X7_mixThings_78 {X : JX RS} {ad : Nat → Nat} (h : OK X RX7 cX7_mixThings rmX7_mixThings) (hM : IsRef X.cI X.B ad) (hnL : X.nL = 2) {res : RS} (hE : EXv X cX7_mixThings res) : ∀ (n : Nat) (x1 : Int32) (S : RS), f_X7_mixThings_78 n x1 S = some res → J X 78 [(0, .ref (ad 7)), (1, .int x1)] [] S := by
  intro n
  induction n with
  | zero =>
    intro x1 S hF
    rw [f_X7_mixThings_78] at hF
    cases hF
  | succ n ih =>
    intro x1 S hF
    rw [f_X7_mixThings_78] at hF
    refine j_iload_n h 1 rfl rfl dX7_mixThings_78 ?_
    refine j_bipush h (v := 10) (by decide) dX7_mixThings_79 ?_
    refine j_icmp_ge h 105 (by decide) dX7_mixThings_81 hF (fun hF => ?_) (fun hF => ?_)
    · refine j_iconst h (v := 0) (by decide) dX7_mixThings_105 ?_
      refine j_istore_n h hnL [(1, .int (0 : Int32)), (0, .ref (ad 7))] rfl (by decide) rfl dX7_mixThings_106 ?_
      exact j_sub [1, 0] rfl (k_X7_mixThings_107 h hM hnL hE fuel _ _ hF)
    · refine j_aload_n h 0 rfl rfl dX7_mixThings_84 ?_
      refine j_aload_n h 0 rfl rfl dX7_mixThings_85 ?_
      refine j_iload_n h 1 rfl rfl dX7_mixThings_86 ?_
      refine j_iconst h (v := 5) (by decide) dX7_mixThings_87 ?_
      refine j_idiv h (by decide) dX7_mixThings_88 ?_
      refine j_iload_n h 1 rfl rfl dX7_mixThings_89 ?_
      refine j_iconst h (v := 5) (by decide) dX7_mixThings_90 ?_
      refine j_irem h (by decide) dX7_mixThings_91 ?_
      obtain ⟨r_10, hr_10, hF⟩ := bind_row hF
      refine j_callVi h (st := [.ref (ad 7)]) (S' := S) (c_X7_batteryNow X.l X.D X.cI X.cZ X.cV hM S (x1 / (5 : Int32)) (x1 - x1 / (5 : Int32) * (5 : Int32)) hr_10) rfl rfl q5_57 cw_X7_batteryNow hM.2.1.o rfl rfl rfl ⟨rfl, rfl, Nat.le_of_ble_eq_true rfl, Nat.le_of_ble_eq_true rfl⟩ _ rfl (Nat.le_of_ble_eq_true rfl) dX7_mixThings_92 ?_
      refine j_i2l h dX7_mixThings_95 ?_
      obtain ⟨r_11, hr_11, hF⟩ := bind_row hF
      refine j_callVv h (st := []) (S' := r_11) (c_X7_mix X.l X.D X.cI X.cZ X.cV hM S r_10.toInt64 hr_11) rfl rfl q5_138 cw_X7_mix hM.2.1.o rfl rfl rfl ⟨rfl, rfl, Nat.le_of_ble_eq_true rfl, Nat.le_of_ble_eq_true rfl⟩ _ rfl (Nat.le_of_ble_eq_true rfl) dX7_mixThings_96 ?_
      refine j_iincL hF (fun x_12 ex_12 hF => ?_)
      refine j_iinc h hnL 1 [(1, .int x_12), (0, .ref (ad 7))] rfl ex_12 (by decide) (by decide) rfl dX7_mixThings_99 ?_
      refine j_goto h 78 (by decide) dX7_mixThings_102 ?_
      exact j_sub [1, 0] rfl (ih _ _ hF)
set_option maxHeartbeats 4000000 in
set_option maxRecDepth 100000 in
theorem k_X7_mixThings_42 {X : JX RS} {ad : Nat → Nat} (h : OK X RX7 cX7_mixThings rmX7_mixThings) (hM : IsRef X.cI X.B ad) (hnL : X.nL = 2) {res : RS} (hE : EXv X cX7_mixThings res) : ∀ (n : Nat) (x1 : Int32) (S : RS), f_X7_mixThings_42 n x1 S = some res → J X 42 [(0, .ref (ad 7)), (1, .int x1)] [] S := by
  intro n
  induction n with
  | zero =>
    intro x1 S hF
    rw [f_X7_mixThings_42] at hF
    cases hF
  | succ n ih =>
    intro x1 S hF
    rw [f_X7_mixThings_42] at hF
    refine j_iload_n h 1 rfl rfl dX7_mixThings_42 ?_
    refine j_iconst h (v := 3) (by decide) dX7_mixThings_43 ?_
    refine j_aload_n h 0 rfl rfl dX7_mixThings_44 ?_
    refine j_get h hM.2.1.o inX7 rfl 0 (by decide) rfl q4_24 rfl dX7_mixThings_45 ?_
    refine j_sipush h (v := 173) (by decide) dX7_mixThings_48 ?_
    obtain ⟨hb_2, hF⟩ := bnd_row hF
    refine ja_iald h (get := fun S => S.1) (put := setR) (hM.1 0 (by decide)) hb_2 dX7_mixThings_51 ?_
    refine j_imul h dX7_mixThings_52 ?_
    refine j_icmp_ge h 76 (by decide) dX7_mixThings_53 hF (fun hF => ?_) (fun hF => ?_)
    · refine j_iconst h (v := 0) (by decide) dX7_mixThings_76 ?_
      refine j_istore_n h hnL [(1, .int (0 : Int32)), (0, .ref (ad 7))] rfl (by decide) rfl dX7_mixThings_77 ?_
      exact j_sub [1, 0] rfl (k_X7_mixThings_78 h hM hnL hE fuel _ _ hF)
    · refine j_aload_n h 0 rfl rfl dX7_mixThings_56 ?_
      refine j_aload_n h 0 rfl rfl dX7_mixThings_57 ?_
      refine j_get h hM.2.1.o inX7 rfl 0 (by decide) rfl q4_24 rfl dX7_mixThings_58 ?_
      refine j_bipush h (v := 80) (by decide) dX7_mixThings_61 ?_
      refine j_iload_n h 1 rfl rfl dX7_mixThings_63 ?_
      refine j_iadd h dX7_mixThings_64 ?_
      obtain ⟨hb_13, hF⟩ := bnd_row hF
      refine ja_iald h (get := fun S => S.1) (put := setR) (hM.1 0 (by decide)) hb_13 dX7_mixThings_65 ?_
      refine j_i2l h dX7_mixThings_66 ?_
      obtain ⟨r_14, hr_14, hF⟩ := bind_row hF
      refine j_callVv h (st := []) (S' := r_14) (c_X7_mix X.l X.D X.cI X.cZ X.cV hM S ((rd S.1 0 ((80 : Int32) + x1)).toInt64) hr_14) rfl rfl q5_138 cw_X7_mix hM.2.1.o rfl rfl rfl ⟨rfl, rfl, Nat.le_of_ble_eq_true rfl, Nat.le_of_ble_eq_true rfl⟩ _ rfl (Nat.le_of_ble_eq_true rfl) dX7_mixThings_67 ?_
      refine j_iincL hF (fun x_15 ex_15 hF => ?_)
      refine j_iinc h hnL 1 [(1, .int x_15), (0, .ref (ad 7))] rfl ex_15 (by decide) (by decide) rfl dX7_mixThings_70 ?_
      refine j_goto h 42 (by decide) dX7_mixThings_73 ?_
      exact j_sub [1, 0] rfl (ih _ _ hF)
set_option maxHeartbeats 4000000 in
set_option maxRecDepth 100000 in
theorem k_X7_mixThings_2 {X : JX RS} {ad : Nat → Nat} (h : OK X RX7 cX7_mixThings rmX7_mixThings) (hM : IsRef X.cI X.B ad) (hnL : X.nL = 2) {res : RS} (hE : EXv X cX7_mixThings res) : ∀ (n : Nat) (x1 : Int32) (S : RS), f_X7_mixThings_2 n x1 S = some res → J X 2 [(0, .ref (ad 7)), (1, .int x1)] [] S := by
  intro n
  induction n with
  | zero =>
    intro x1 S hF
    rw [f_X7_mixThings_2] at hF
    cases hF
  | succ n ih =>
    intro x1 S hF
    rw [f_X7_mixThings_2] at hF
    refine j_iload_n h 1 rfl rfl dX7_mixThings_2 ?_
    refine j_bipush h (v := 11) (by decide) dX7_mixThings_3 ?_
    refine j_aload_n h 0 rfl rfl dX7_mixThings_5 ?_
    refine j_get h hM.2.1.o inX7 rfl 0 (by decide) rfl q4_24 rfl dX7_mixThings_6 ?_
    refine j_sipush h (v := 172) (by decide) dX7_mixThings_9 ?_
    obtain ⟨hb_1, hF⟩ := bnd_row hF
    refine ja_iald h (get := fun S => S.1) (put := setR) (hM.1 0 (by decide)) hb_1 dX7_mixThings_12 ?_
    refine j_imul h dX7_mixThings_13 ?_
    refine j_icmp_ge h 40 (by decide) dX7_mixThings_14 hF (fun hF => ?_) (fun hF => ?_)
    · refine j_iconst h (v := 0) (by decide) dX7_mixThings_40 ?_
      refine j_istore_n h hnL [(1, .int (0 : Int32)), (0, .ref (ad 7))] rfl (by decide) rfl dX7_mixThings_41 ?_
      exact j_sub [1, 0] rfl (k_X7_mixThings_42 h hM hnL hE fuel _ _ hF)
    · refine j_aload_n h 0 rfl rfl dX7_mixThings_17 ?_
      refine j_aload_n h 0 rfl rfl dX7_mixThings_18 ?_
      refine j_iload_n h 1 rfl rfl dX7_mixThings_19 ?_
      refine j_bipush h (v := 11) (by decide) dX7_mixThings_20 ?_
      refine j_idiv h (by decide) dX7_mixThings_22 ?_
      refine j_iload_n h 1 rfl rfl dX7_mixThings_23 ?_
      refine j_bipush h (v := 11) (by decide) dX7_mixThings_24 ?_
      refine j_irem h (by decide) dX7_mixThings_26 ?_
      obtain ⟨r_16, hr_16, hF⟩ := bind_row hF
      refine j_callVi h (st := [.ref (ad 7)]) (S' := S) (c_X7_houseNow X.l X.D X.cI X.cZ X.cV hM S (x1 / (11 : Int32)) (x1 - x1 / (11 : Int32) * (11 : Int32)) hr_16) rfl rfl q5_45 cw_X7_houseNow hM.2.1.o rfl rfl rfl ⟨rfl, rfl, Nat.le_of_ble_eq_true rfl, Nat.le_of_ble_eq_true rfl⟩ _ rfl (Nat.le_of_ble_eq_true rfl) dX7_mixThings_27 ?_
      refine j_i2l h dX7_mixThings_30 ?_
      obtain ⟨r_17, hr_17, hF⟩ := bind_row hF
      refine j_callVv h (st := []) (S' := r_17) (c_X7_mix X.l X.D X.cI X.cZ X.cV hM S r_16.toInt64 hr_17) rfl rfl q5_138 cw_X7_mix hM.2.1.o rfl rfl rfl ⟨rfl, rfl, Nat.le_of_ble_eq_true rfl, Nat.le_of_ble_eq_true rfl⟩ _ rfl (Nat.le_of_ble_eq_true rfl) dX7_mixThings_31 ?_
      refine j_iincL hF (fun x_18 ex_18 hF => ?_)
      refine j_iinc h hnL 1 [(1, .int x_18), (0, .ref (ad 7))] rfl ex_18 (by decide) (by decide) rfl dX7_mixThings_34 ?_
      refine j_goto h 2 (by decide) dX7_mixThings_37 ?_
      exact j_sub [1, 0] rfl (ih _ _ hF)
set_option maxHeartbeats 4000000 in
set_option maxRecDepth 100000 in
theorem k_X7_mixThings {X : JX RS} {ad : Nat → Nat} (h : OK X RX7 cX7_mixThings rmX7_mixThings) (hM : IsRef X.cI X.B ad) (hnL : X.nL = 2) {res : RS} {S : RS} (hE : EXv X cX7_mixThings res) (hF : f_X7_mixThings S = some res) : J X 0 [(0, .ref (ad 7))] [] S := by
  rw [f_X7_mixThings] at hF
  refine j_iconst h (v := 0) (by decide) dX7_mixThings_0 ?_
  refine j_istore_n h hnL [(1, .int (0 : Int32)), (0, .ref (ad 7))] rfl (by decide) rfl dX7_mixThings_1 ?_
  exact j_sub [1, 0] rfl (k_X7_mixThings_2 h hM hnL hE fuel _ _ hF)
theorem c_X7_mixThings (l : Launch) (D : va_G) (cI cZ cV : ClassId) {B : RS → va_W} {ad : Nat → Nat} (hM : IsRef cI B ad) (S : RS) {r : RS} (hF : f_X7_mixThings S = some r) : CTv l D (jtys cI cZ cV) yX7_mixThings cX7_mixThings 2 none rmX7_mixThings B [.ref (ad 7)] S r := by
  refine CTv.of [(0, .ref (ad 7))] rfl (Nat.le_of_ble_eq_true rfl) (by decide) ⟨rfl, rfl⟩ (fun X e1 e2 e3 e4 e5 e6 e7 h hE => ?_)
  subst e1; subst e2; subst e3; subst e4; subst e5; subst e6
  exact k_X7_mixThings h hM e7 hE hF
