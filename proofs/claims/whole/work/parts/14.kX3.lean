abbrev rmX3_append : Room := { frames := 0, cells := 0, slots := 0, locals := 0 }
theorem cw_X3_append : CWv RX3 yX3_append cX3_append 2 none 1 := ⟨q3_34, q3_35, q1_7, q3_36, ⟨rfl, by decide +kernel, by decide +kernel, by decide +kernel⟩⟩
set_option maxHeartbeats 4000000 in
set_option maxRecDepth 100000 in
theorem k_X3_append {X : JX VS} {ad : Nat → Nat} (h : OK X RX3 cX3_append rmX3_append) (hT : IsText X.cI X.B ad) (hnL : X.nL = 2) {res : VS} {S : VS} {p1 : Int32} (hE : EXv X cX3_append res) (hF : f_X3_append S p1 = some res) : J X 0 [(0, .ref (ad 2)), (1, .int p1)] [] S := by
  rw [f_X3_append] at hF
  refine j_aload_n h 0 rfl rfl dX3_append_0 ?_
  refine j_get h hT.2.1.o inX3 rfl 1 (by decide) rfl q1_191 rfl dX3_append_1 ?_
  refine j_aload_n h 0 rfl rfl dX3_append_4 ?_
  refine j_get h hT.2.1.o inX3 rfl 0 (by decide) rfl q1_189 rfl dX3_append_5 ?_
  refine j_iload_n h 1 rfl rfl dX3_append_8 ?_
  obtain ⟨hb_1, hF⟩ := bnd_row hF
  refine ja_iast h (get := fun v => v) (put := fun _ v => v) (hT.1 0 (by decide)) hb_1 dX3_append_9 ?_
  refine j_letS hF (fun S_2 hF => ?_)
  refine j_aload_n h 0 rfl rfl dX3_append_10 ?_
  refine j_dup h rfl dX3_append_11 ?_
  refine j_get h hT.2.1.o inX3 rfl 0 (by decide) rfl q1_189 rfl dX3_append_12 ?_
  refine j_iconst h (v := 1) (by decide) dX3_append_15 ?_
  refine j_iadd h dX3_append_16 ?_
  refine j_put h (hT.2.1) inX3 tyX3_ok nmX3 rfl (by decide) rfl q1_189 (Nat.le_of_ble_eq_true rfl) dX3_append_17 ?_
  refine j_letS hF (fun S_3 hF => ?_)
  cases hF
  exact hE _ _ dX3_append_20
theorem c_X3_append (l : Launch) (D : va_G) (cI cZ cV : ClassId) {B : VS → va_W} {ad : Nat → Nat} (hT : IsText cI B ad) (S : VS) (p1 : Int32) {r : VS} (hF : f_X3_append S p1 = some r) : CTv l D (jtys cI cZ cV) yX3_append cX3_append 2 none rmX3_append B [.ref (ad 2), .int p1] S r := by
  refine CTv.of [(0, .ref (ad 2)), (1, .int p1)] rfl (Nat.le_of_ble_eq_true rfl) (by decide) ⟨rfl, rfl⟩ (fun X e1 e2 e3 e4 e5 e6 e7 h hE => ?_)
  subst e1; subst e2; subst e3; subst e4; subst e5; subst e6
  exact k_X3_append h hT e7 hE hF
abbrev rmX3_isDigit : Room := { frames := 0, cells := 0, slots := 0, locals := 0 }
theorem cw_X3_isDigit : CWs yX3_isDigit cX3_isDigit 1 (some .boolean) 1 := ⟨q3_58, q1_7, q3_59, ⟨by decide +kernel, by decide +kernel, by decide +kernel⟩⟩
set_option maxHeartbeats 4000000 in
set_option maxRecDepth 100000 in
theorem k_X3_isDigit {τ : Type} {X : JX τ} (h : OK X RX3 cX3_isDigit rmX3_isDigit) (hnL : X.nL = 1) {res : Int32} {S : τ} {p1 : Int32} (hE : EXz X cX3_isDigit res S) (hF : f_X3_isDigit p1 = some res) : J X 0 [(0, .int p1)] [] S := by
  rw [f_X3_isDigit] at hF
  refine j_iload_n h 0 rfl rfl dX3_isDigit_0 ?_
  refine j_bipush h (v := 48) (by decide) dX3_isDigit_1 ?_
  refine j_icmp_lt h 16 (by decide) dX3_isDigit_3 hF (fun hF => ?_) (fun hF => ?_)
  · refine j_iconst h (v := 0) (by decide) dX3_isDigit_16 ?_
    cases hF
    exact hE _ _ dX3_isDigit_17 (isB_v (y := (0 : Int32)) (by decide))
  · refine j_iload_n h 0 rfl rfl dX3_isDigit_6 ?_
    refine j_bipush h (v := 57) (by decide) dX3_isDigit_7 ?_
    refine j_icmp_gt h 16 (by decide) dX3_isDigit_9 hF (fun hF => ?_) (fun hF => ?_)
    · refine j_iconst h (v := 0) (by decide) dX3_isDigit_16 ?_
      cases hF
      exact hE _ _ dX3_isDigit_17 (isB_v (y := (0 : Int32)) (by decide))
    · refine j_iconst h (v := 1) (by decide) dX3_isDigit_12 ?_
      refine j_goto h 17 (by decide) dX3_isDigit_13 ?_
      cases hF
      exact hE _ _ dX3_isDigit_17 (isB_v (y := (1 : Int32)) (by decide))
theorem c_X3_isDigit (l : Launch) (D : va_G) (cI cZ cV : ClassId) {τ : Type} {B : τ → va_W} (S : τ) (p1 : Int32) {r : Int32} (hF : f_X3_isDigit p1 = some r) : CTz l D (jtys cI cZ cV) yX3_isDigit cX3_isDigit 1 (some .boolean) rmX3_isDigit B [.int p1] S r S := by
  refine CTz.of [(0, .int p1)] rfl (Nat.le_of_ble_eq_true rfl) (by decide) ⟨rfl, rfl⟩ (fun X e1 e2 e3 e4 e5 e6 e7 h hE => ?_)
  subst e1; subst e2; subst e3; subst e4; subst e5; subst e6
  exact k_X3_isDigit h e7 hE hF
abbrev rmX3_beginNumber : Room := { frames := 1, cells := 0, slots := 0, locals := 20 }
theorem cw_X3_beginNumber : CWv RX3 yX3_beginNumber cX3_beginNumber 2 (some .int) 1 := ⟨q3_55, qs14, q1_7, q3_56, ⟨rfl, by decide +kernel, by decide +kernel, by decide +kernel⟩⟩
set_option maxHeartbeats 4000000 in
set_option maxRecDepth 100000 in
theorem k_X3_beginNumber {X : JX VS} {ad : Nat → Nat} (h : OK X RX3 cX3_beginNumber rmX3_beginNumber) (hT : IsText X.cI X.B ad) (hnL : X.nL = 2) {res : Int32 × VS} {S : VS} {p1 : Int32} (hE : EXi X cX3_beginNumber res.1 res.2) (hF : f_X3_beginNumber S p1 = some res) : J X 0 [(0, .ref (ad 2)), (1, .int p1)] [] S := by
  rw [f_X3_beginNumber] at hF
  refine j_iload_n h 1 rfl rfl dX3_beginNumber_0 ?_
  obtain ⟨r_1, hr_1, hF⟩ := bind_row hF
  refine j_callSz h (st := []) (S' := S) (c_X3_isDigit X.l X.D X.cI X.cZ X.cV (B := X.B) S p1 hr_1) rfl rfl q3_57 cw_X3_isDigit rfl ⟨rfl, rfl, Nat.le_of_ble_eq_true rfl, Nat.le_of_ble_eq_true rfl⟩ _ rfl (Nat.le_of_ble_eq_true rfl) dX3_beginNumber_1 (fun hz_r_1 => ?_)
  refine j_if_ne h 9 (by decide) dX3_beginNumber_4 hF (fun hF => ?_) (fun hF => ?_)
  · refine j_iconst h (v := 4) (by decide) dX3_beginNumber_7 ?_
    cases hF
    exact hE _ _ dX3_beginNumber_8
  · refine j_aload_n h 0 rfl rfl dX3_beginNumber_9 ?_
    refine j_iload_n h 1 rfl rfl dX3_beginNumber_10 ?_
    refine j_bipush h (v := 48) (by decide) dX3_beginNumber_11 ?_
    refine j_isub h dX3_beginNumber_13 ?_
    refine j_put h (hT.2.2.2.1) inX3 tyX3_ok nmX3 rfl (by decide) rfl q1_197 (Nat.le_of_ble_eq_true rfl) dX3_beginNumber_14 ?_
    refine j_letS hF (fun S_2 hF => ?_)
    refine j_iconst h (v := 1) (by decide) dX3_beginNumber_17 ?_
    cases hF
    exact hE _ _ dX3_beginNumber_18
theorem c_X3_beginNumber (l : Launch) (D : va_G) (cI cZ cV : ClassId) {B : VS → va_W} {ad : Nat → Nat} (hT : IsText cI B ad) (S : VS) (p1 : Int32) {r : Int32 × VS} (hF : f_X3_beginNumber S p1 = some r) : CTi l D (jtys cI cZ cV) yX3_beginNumber cX3_beginNumber 2 (some .int) rmX3_beginNumber B [.ref (ad 2), .int p1] S r.1 r.2 := by
  refine CTi.of [(0, .ref (ad 2)), (1, .int p1)] rfl (Nat.le_of_ble_eq_true rfl) (by decide) ⟨rfl, rfl⟩ (fun X e1 e2 e3 e4 e5 e6 e7 h hE => ?_)
  subst e1; subst e2; subst e3; subst e4; subst e5; subst e6
  exact k_X3_beginNumber h hT e7 hE hF
abbrev rmX3_endItem : Room := { frames := 1, cells := 0, slots := 0, locals := 21 }
theorem cw_X3_endItem : CWv RX3 yX3_endItem cX3_endItem 4 (some .int) 1 := ⟨q3_66, qs16, q1_7, q3_67, ⟨rfl, by decide +kernel, by decide +kernel, by decide +kernel⟩⟩
set_option maxHeartbeats 4000000 in
set_option maxRecDepth 100000 in
theorem k_X3_endItem_29 {X : JX VS} {ad : Nat → Nat} (h : OK X RX3 cX3_endItem rmX3_endItem) (hT : IsText X.cI X.B ad) (hnL : X.nL = 4) {res : Int32 × VS} {x2 : Int32} (hE : EXi X cX3_endItem res.1 res.2) : ∀ (n : Nat) (x3 : Int32) (S : VS), f_X3_endItem_29 x2 n x3 S = some res → J X 29 [(0, .ref (ad 2)), (2, .int x2), (3, .int x3)] [] S := by
  intro n
  induction n with
  | zero =>
    intro x3 S hF
    rw [f_X3_endItem_29] at hF
    cases hF
  | succ n ih =>
    intro x3 S hF
    rw [f_X3_endItem_29] at hF
    refine j_iload_n h 2 rfl rfl dX3_endItem_29 ?_
    refine j_iload_n h 1 rfl rfl dX3_endItem_30 ?_
    refine j_icmp_ge h 50 (by decide) dX3_endItem_31 hF (fun hF => ?_) (fun hF => ?_)
    · refine j_aload_n h 0 rfl rfl dX3_endItem_50 ?_
      refine j_iload_n h 1 rfl rfl dX3_endItem_51 ?_
      refine j_put h (hT.2.2.1) inX3 tyX3_ok nmX3 rfl (by decide) rfl q1_193 (Nat.le_of_ble_eq_true rfl) dX3_endItem_52 ?_
      refine j_letS hF (fun S_3 hF => ?_)
      refine j_iconst h (v := 0) (by decide) dX3_endItem_55 ?_
      cases hF
      exact hE _ _ dX3_endItem_56
    · refine j_aload_n h 0 rfl rfl dX3_endItem_34 ?_
      refine j_get h hT.2.1.o inX3 rfl 3 (by decide) rfl q1_195 rfl dX3_endItem_35 ?_
      refine j_iload_n h 2 rfl rfl dX3_endItem_38 ?_
      refine j_aload_n h 0 rfl rfl dX3_endItem_39 ?_
      refine j_get h hT.2.1.o inX3 rfl 4 (by decide) rfl q1_197 rfl dX3_endItem_40 ?_
      obtain ⟨hb_4, hF⟩ := bnd_row hF
      refine ja_iast h (get := fun v => v) (put := fun _ v => v) (hT.1 1 (by decide)) hb_4 dX3_endItem_43 ?_
      refine j_letS hF (fun S_5 hF => ?_)
      refine j_iincL hF (fun x_6 ex_6 hF => ?_)
      refine j_iinc h hnL 2 [(3, .int x_6), (0, .ref (ad 2)), (2, .int x2)] rfl ex_6 (by decide) (by decide) rfl dX3_endItem_44 ?_
      refine j_goto h 29 (by decide) dX3_endItem_47 ?_
      exact j_sub [1, 2, 0] rfl (ih _ _ hF)
set_option maxHeartbeats 4000000 in
set_option maxRecDepth 100000 in
theorem k_X3_endItem_19 {X : JX VS} {ad : Nat → Nat} (h : OK X RX3 cX3_endItem rmX3_endItem) (hT : IsText X.cI X.B ad) (hnL : X.nL = 4) {res : Int32 × VS} {S : VS} {s0 : Int32} {s1 : Int32} {s2 : Int32} (hE : EXi X cX3_endItem res.1 res.2) (hF : f_X3_endItem_19 S s0 s1 s2 = some res) : J X 19 [(0, .ref (ad 2))] [.int s0, .int s1, .int s2] S := by
  rw [f_X3_endItem_19] at hF
  refine j_iadd h dX3_endItem_19 ?_
  refine j_min h q3_68 ⟨Nat.le_of_ble_eq_true rfl, Nat.le_of_ble_eq_true rfl⟩ dX3_endItem_20 ?_
  refine j_let hF (fun x_1 hF => ?_)
  refine j_istore_n h hnL [(2, .int x_1), (0, .ref (ad 2))] rfl (by decide) rfl dX3_endItem_23 ?_
  refine j_aload_n h 1 rfl rfl dX3_endItem_24 ?_
  refine j_get h hT.2.1.o inX3 rfl 2 (by decide) rfl q1_193 rfl dX3_endItem_25 ?_
  refine j_let hF (fun x_2 hF => ?_)
  refine j_istore_n h hnL [(3, .int x_2), (2, .int x_1), (0, .ref (ad 2))] rfl (by decide) rfl dX3_endItem_28 ?_
  exact j_sub [2, 1, 0] rfl (k_X3_endItem_29 h hT hnL hE fuel _ _ hF)
set_option maxHeartbeats 4000000 in
set_option maxRecDepth 100000 in
theorem k_X3_endItem {X : JX VS} {ad : Nat → Nat} (h : OK X RX3 cX3_endItem rmX3_endItem) (hT : IsText X.cI X.B ad) (hnL : X.nL = 4) {res : Int32 × VS} {S : VS} {p1 : Int32} (hE : EXi X cX3_endItem res.1 res.2) (hF : f_X3_endItem S p1 = some res) : J X 0 [(0, .ref (ad 2)), (1, .int p1)] [] S := by
  rw [f_X3_endItem] at hF
  refine j_bipush h (v := 48) (by decide) dX3_endItem_0 ?_
  refine j_aload_n h 0 rfl rfl dX3_endItem_2 ?_
  refine j_get h hT.2.1.o inX3 rfl 2 (by decide) rfl q1_193 rfl dX3_endItem_3 ?_
  refine j_iload_n h 1 rfl rfl dX3_endItem_6 ?_
  refine j_iconst h (v := 3) (by decide) dX3_endItem_7 ?_
  refine j_icmp_ne h 18 (by decide) dX3_endItem_8 hF (fun hF => ?_) (fun hF => ?_)
  · refine j_aload_n h 0 rfl rfl dX3_endItem_11 ?_
    refine j_get h hT.2.1.o inX3 rfl 5 (by decide) rfl q1_198 rfl dX3_endItem_12 ?_
    refine j_goto h 19 (by decide) dX3_endItem_15 ?_
    exact j_sub [0] rfl (k_X3_endItem_19 h hT hnL hE hF)
  · refine j_iconst h (v := 1) (by decide) dX3_endItem_18 ?_
    exact j_sub [0] rfl (k_X3_endItem_19 h hT hnL hE hF)
theorem c_X3_endItem (l : Launch) (D : va_G) (cI cZ cV : ClassId) {B : VS → va_W} {ad : Nat → Nat} (hT : IsText cI B ad) (S : VS) (p1 : Int32) {r : Int32 × VS} (hF : f_X3_endItem S p1 = some r) : CTi l D (jtys cI cZ cV) yX3_endItem cX3_endItem 4 (some .int) rmX3_endItem B [.ref (ad 2), .int p1] S r.1 r.2 := by
  refine CTi.of [(0, .ref (ad 2)), (1, .int p1)] rfl (Nat.le_of_ble_eq_true rfl) (by decide) ⟨rfl, rfl⟩ (fun X e1 e2 e3 e4 e5 e6 e7 h hE => ?_)
  subst e1; subst e2; subst e3; subst e4; subst e5; subst e6
  exact k_X3_endItem h hT e7 hE hF
abbrev rmX3_inNumber : Room := { frames := 2, cells := 0, slots := 0, locals := 44 }
theorem cw_X3_inNumber : CWv RX3 yX3_inNumber cX3_inNumber 2 (some .int) 1 := ⟨q3_62, qs15, q1_7, q3_63, ⟨rfl, by decide +kernel, by decide +kernel, by decide +kernel⟩⟩
set_option maxHeartbeats 4000000 in
set_option maxRecDepth 100000 in
theorem k_X3_inNumber {X : JX VS} {ad : Nat → Nat} (h : OK X RX3 cX3_inNumber rmX3_inNumber) (hT : IsText X.cI X.B ad) (hnL : X.nL = 2) {res : Int32 × VS} {S : VS} {p1 : Int32} (hE : EXi X cX3_inNumber res.1 res.2) (hF : f_X3_inNumber S p1 = some res) : J X 0 [(0, .ref (ad 2)), (1, .int p1)] [] S := by
  rw [f_X3_inNumber] at hF
  refine j_iload_n h 1 rfl rfl dX3_inNumber_0 ?_
  refine j_bipush h (v := 44) (by decide) dX3_inNumber_1 ?_
  refine j_icmp_ne h 27 (by decide) dX3_inNumber_3 hF (fun hF => ?_) (fun hF => ?_)
  · refine j_aload_n h 0 rfl rfl dX3_inNumber_6 ?_
    refine j_get h hT.2.1.o inX3 rfl 2 (by decide) rfl q1_193 rfl dX3_inNumber_7 ?_
    refine j_iconst h (v := 1) (by decide) dX3_inNumber_10 ?_
    refine j_iadd h dX3_inNumber_11 ?_
    refine j_bipush h (v := 48) (by decide) dX3_inNumber_12 ?_
    refine j_icmp_ge h 25 (by decide) dX3_inNumber_14 hF (fun hF => ?_) (fun hF => ?_)
    · refine j_iconst h (v := 4) (by decide) dX3_inNumber_25 ?_
      cases hF
      exact hE _ _ dX3_inNumber_26
    · refine j_aload_n h 0 rfl rfl dX3_inNumber_17 ?_
      refine j_iconst h (v := 1) (by decide) dX3_inNumber_18 ?_
      obtain ⟨r_1, hr_1, hF⟩ := bind_row hF
      refine j_callVi h (st := []) (S' := r_1.2) (c_X3_endItem X.l X.D X.cI X.cZ X.cV hT S (1 : Int32) hr_1) rfl rfl q3_64 cw_X3_endItem hT.2.1.o rfl rfl rfl ⟨rfl, rfl, Nat.le_of_ble_eq_true rfl, Nat.le_of_ble_eq_true rfl⟩ _ rfl (Nat.le_of_ble_eq_true rfl) dX3_inNumber_19 ?_
      refine j_goto h 26 (by decide) dX3_inNumber_22 ?_
      cases hF
      exact hE _ _ dX3_inNumber_26
  · refine j_iload_n h 1 rfl rfl dX3_inNumber_27 ?_
    refine j_bipush h (v := 42) (by decide) dX3_inNumber_28 ?_
    refine j_icmp_ne h 50 (by decide) dX3_inNumber_30 hF (fun hF => ?_) (fun hF => ?_)
    · refine j_aload_n h 0 rfl rfl dX3_inNumber_33 ?_
      refine j_get h hT.2.1.o inX3 rfl 2 (by decide) rfl q1_193 rfl dX3_inNumber_34 ?_
      refine j_iconst h (v := 2) (by decide) dX3_inNumber_37 ?_
      refine j_iadd h dX3_inNumber_38 ?_
      refine j_bipush h (v := 48) (by decide) dX3_inNumber_39 ?_
      refine j_icmp_gt h 48 (by decide) dX3_inNumber_41 hF (fun hF => ?_) (fun hF => ?_)
      · refine j_iconst h (v := 4) (by decide) dX3_inNumber_48 ?_
        cases hF
        exact hE _ _ dX3_inNumber_49
      · refine j_iconst h (v := 2) (by decide) dX3_inNumber_44 ?_
        refine j_goto h 49 (by decide) dX3_inNumber_45 ?_
        cases hF
        exact hE _ _ dX3_inNumber_49
    · refine j_iload_n h 1 rfl rfl dX3_inNumber_50 ?_
      obtain ⟨r_2, hr_2, hF⟩ := bind_row hF
      refine j_callSz h (st := []) (S' := S) (c_X3_isDigit X.l X.D X.cI X.cZ X.cV (B := X.B) S p1 hr_2) rfl rfl q3_57 cw_X3_isDigit rfl ⟨rfl, rfl, Nat.le_of_ble_eq_true rfl, Nat.le_of_ble_eq_true rfl⟩ _ rfl (Nat.le_of_ble_eq_true rfl) dX3_inNumber_51 (fun hz_r_2 => ?_)
      refine j_if_eq h 82 (by decide) dX3_inNumber_54 hF (fun hF => ?_) (fun hF => ?_)
      · refine j_iconst h (v := 4) (by decide) dX3_inNumber_82 ?_
        cases hF
        exact hE _ _ dX3_inNumber_83
      · refine j_aload_n h 0 rfl rfl dX3_inNumber_57 ?_
        refine j_get h hT.2.1.o inX3 rfl 4 (by decide) rfl q1_197 rfl dX3_inNumber_58 ?_
        refine j_if_eq h 82 (by decide) dX3_inNumber_61 hF (fun hF => ?_) (fun hF => ?_)
        · refine j_iconst h (v := 4) (by decide) dX3_inNumber_82 ?_
          cases hF
          exact hE _ _ dX3_inNumber_83
        · refine j_aload_n h 0 rfl rfl dX3_inNumber_64 ?_
          refine j_get h hT.2.1.o inX3 rfl 4 (by decide) rfl q1_197 rfl dX3_inNumber_65 ?_
          refine j_bipush h (v := 10) (by decide) dX3_inNumber_68 ?_
          refine j_imul h dX3_inNumber_70 ?_
          refine j_iload_n h 1 rfl rfl dX3_inNumber_71 ?_
          refine j_iadd h dX3_inNumber_72 ?_
          refine j_bipush h (v := 48) (by decide) dX3_inNumber_73 ?_
          refine j_isub h dX3_inNumber_75 ?_
          refine j_sipush h (v := 500) (by decide) dX3_inNumber_76 ?_
          refine j_icmp_le h 84 (by decide) dX3_inNumber_79 hF (fun hF => ?_) (fun hF => ?_)
          · refine j_aload_n h 0 rfl rfl dX3_inNumber_84 ?_
            refine j_aload_n h 0 rfl rfl dX3_inNumber_85 ?_
            refine j_get h hT.2.1.o inX3 rfl 4 (by decide) rfl q1_197 rfl dX3_inNumber_86 ?_
            refine j_bipush h (v := 10) (by decide) dX3_inNumber_89 ?_
            refine j_imul h dX3_inNumber_91 ?_
            refine j_iload_n h 1 rfl rfl dX3_inNumber_92 ?_
            refine j_iadd h dX3_inNumber_93 ?_
            refine j_bipush h (v := 48) (by decide) dX3_inNumber_94 ?_
            refine j_isub h dX3_inNumber_96 ?_
            refine j_put h (hT.2.2.2.1) inX3 tyX3_ok nmX3 rfl (by decide) rfl q1_197 (Nat.le_of_ble_eq_true rfl) dX3_inNumber_97 ?_
            refine j_letS hF (fun S_3 hF => ?_)
            refine j_iconst h (v := 1) (by decide) dX3_inNumber_100 ?_
            cases hF
            exact hE _ _ dX3_inNumber_101
          · refine j_iconst h (v := 4) (by decide) dX3_inNumber_82 ?_
            cases hF
            exact hE _ _ dX3_inNumber_83
theorem c_X3_inNumber (l : Launch) (D : va_G) (cI cZ cV : ClassId) {B : VS → va_W} {ad : Nat → Nat} (hT : IsText cI B ad) (S : VS) (p1 : Int32) {r : Int32 × VS} (hF : f_X3_inNumber S p1 = some r) : CTi l D (jtys cI cZ cV) yX3_inNumber cX3_inNumber 2 (some .int) rmX3_inNumber B [.ref (ad 2), .int p1] S r.1 r.2 := by
  refine CTi.of [(0, .ref (ad 2)), (1, .int p1)] rfl (Nat.le_of_ble_eq_true rfl) (by decide) ⟨rfl, rfl⟩ (fun X e1 e2 e3 e4 e5 e6 e7 h hE => ?_)
  subst e1; subst e2; subst e3; subst e4; subst e5; subst e6
  exact k_X3_inNumber h hT e7 hE hF
abbrev rmX3_beginTimes : Room := { frames := 1, cells := 0, slots := 0, locals := 20 }
theorem cw_X3_beginTimes : CWv RX3 yX3_beginTimes cX3_beginTimes 2 (some .int) 1 := ⟨q3_71, qs17, q1_7, q3_72, ⟨rfl, by decide +kernel, by decide +kernel, by decide +kernel⟩⟩
set_option maxHeartbeats 4000000 in
set_option maxRecDepth 100000 in
theorem k_X3_beginTimes_44 {X : JX VS} {ad : Nat → Nat} (h : OK X RX3 cX3_beginTimes rmX3_beginTimes) (hT : IsText X.cI X.B ad) (hnL : X.nL = 2) {res : Int32 × VS} {S : VS} {s0 : Int32} {s1 : Int32} (hE : EXi X cX3_beginTimes res.1 res.2) (hF : f_X3_beginTimes_44 S s0 s1 = some res) : J X 44 [] [.int s0, .int s1] S := by
  rw [f_X3_beginTimes_44] at hF
  refine j_iadd h dX3_beginTimes_44 ?_
  refine j_bipush h (v := 48) (by decide) dX3_beginTimes_45 ?_
  refine j_icmp_gt h 54 (by decide) dX3_beginTimes_47 hF (fun hF => ?_) (fun hF => ?_)
  · refine j_iconst h (v := 4) (by decide) dX3_beginTimes_54 ?_
    cases hF
    exact hE _ _ dX3_beginTimes_55
  · refine j_iconst h (v := 3) (by decide) dX3_beginTimes_50 ?_
    refine j_goto h 55 (by decide) dX3_beginTimes_51 ?_
    cases hF
    exact hE _ _ dX3_beginTimes_55
set_option maxHeartbeats 4000000 in
set_option maxRecDepth 100000 in
theorem k_X3_beginTimes {X : JX VS} {ad : Nat → Nat} (h : OK X RX3 cX3_beginTimes rmX3_beginTimes) (hT : IsText X.cI X.B ad) (hnL : X.nL = 2) {res : Int32 × VS} {S : VS} {p1 : Int32} (hE : EXi X cX3_beginTimes res.1 res.2) (hF : f_X3_beginTimes S p1 = some res) : J X 0 [(0, .ref (ad 2)), (1, .int p1)] [] S := by
  rw [f_X3_beginTimes] at hF
  refine j_iload_n h 1 rfl rfl dX3_beginTimes_0 ?_
  obtain ⟨r_1, hr_1, hF⟩ := bind_row hF
  refine j_callSz h (st := []) (S' := S) (c_X3_isDigit X.l X.D X.cI X.cZ X.cV (B := X.B) S p1 hr_1) rfl rfl q3_57 cw_X3_isDigit rfl ⟨rfl, rfl, Nat.le_of_ble_eq_true rfl, Nat.le_of_ble_eq_true rfl⟩ _ rfl (Nat.le_of_ble_eq_true rfl) dX3_beginTimes_1 (fun hz_r_1 => ?_)
  refine j_if_eq h 13 (by decide) dX3_beginTimes_4 hF (fun hF => ?_) (fun hF => ?_)
  · refine j_iconst h (v := 4) (by decide) dX3_beginTimes_13 ?_
    cases hF
    exact hE _ _ dX3_beginTimes_14
  · refine j_iload_n h 1 rfl rfl dX3_beginTimes_7 ?_
    refine j_bipush h (v := 48) (by decide) dX3_beginTimes_8 ?_
    refine j_icmp_ne h 15 (by decide) dX3_beginTimes_10 hF (fun hF => ?_) (fun hF => ?_)
    · refine j_iconst h (v := 4) (by decide) dX3_beginTimes_13 ?_
      cases hF
      exact hE _ _ dX3_beginTimes_14
    · refine j_aload_n h 0 rfl rfl dX3_beginTimes_15 ?_
      refine j_iload_n h 1 rfl rfl dX3_beginTimes_16 ?_
      refine j_bipush h (v := 48) (by decide) dX3_beginTimes_17 ?_
      refine j_isub h dX3_beginTimes_19 ?_
      refine j_put h (hT.2.2.2.2) inX3 tyX3_ok nmX3 rfl (by decide) rfl q1_198 (Nat.le_of_ble_eq_true rfl) dX3_beginTimes_20 ?_
      refine j_letS hF (fun S_2 hF => ?_)
      refine j_aload_n h 0 rfl rfl dX3_beginTimes_23 ?_
      refine j_get h hT.2.1.o inX3 rfl 2 (by decide) rfl q1_193 rfl dX3_beginTimes_24 ?_
      refine j_aload_n h 0 rfl rfl dX3_beginTimes_27 ?_
      refine j_get h hT.2.1.o inX3 rfl 5 (by decide) rfl q1_198 rfl dX3_beginTimes_28 ?_
      refine j_iconst h (v := 1) (by decide) dX3_beginTimes_31 ?_
      refine j_icmp_ne h 40 (by decide) dX3_beginTimes_32 hF (fun hF => ?_) (fun hF => ?_)
      · refine j_bipush h (v := 10) (by decide) dX3_beginTimes_35 ?_
        refine j_goto h 44 (by decide) dX3_beginTimes_37 ?_
        exact j_sub [] rfl (k_X3_beginTimes_44 h hT hnL hE hF)
      · refine j_aload_n h 0 rfl rfl dX3_beginTimes_40 ?_
        refine j_get h hT.2.1.o inX3 rfl 5 (by decide) rfl q1_198 rfl dX3_beginTimes_41 ?_
        exact j_sub [] rfl (k_X3_beginTimes_44 h hT hnL hE hF)
theorem c_X3_beginTimes (l : Launch) (D : va_G) (cI cZ cV : ClassId) {B : VS → va_W} {ad : Nat → Nat} (hT : IsText cI B ad) (S : VS) (p1 : Int32) {r : Int32 × VS} (hF : f_X3_beginTimes S p1 = some r) : CTi l D (jtys cI cZ cV) yX3_beginTimes cX3_beginTimes 2 (some .int) rmX3_beginTimes B [.ref (ad 2), .int p1] S r.1 r.2 := by
  refine CTi.of [(0, .ref (ad 2)), (1, .int p1)] rfl (Nat.le_of_ble_eq_true rfl) (by decide) ⟨rfl, rfl⟩ (fun X e1 e2 e3 e4 e5 e6 e7 h hE => ?_)
  subst e1; subst e2; subst e3; subst e4; subst e5; subst e6
  exact k_X3_beginTimes h hT e7 hE hF
abbrev rmX3_inTimes : Room := { frames := 2, cells := 0, slots := 0, locals := 44 }
theorem cw_X3_inTimes : CWv RX3 yX3_inTimes cX3_inTimes 2 (some .int) 1 := ⟨q3_75, qs18, q1_7, q3_76, ⟨rfl, by decide +kernel, by decide +kernel, by decide +kernel⟩⟩
set_option maxHeartbeats 4000000 in
set_option maxRecDepth 100000 in
theorem k_X3_inTimes {X : JX VS} {ad : Nat → Nat} (h : OK X RX3 cX3_inTimes rmX3_inTimes) (hT : IsText X.cI X.B ad) (hnL : X.nL = 2) {res : Int32 × VS} {S : VS} {p1 : Int32} (hE : EXi X cX3_inTimes res.1 res.2) (hF : f_X3_inTimes S p1 = some res) : J X 0 [(0, .ref (ad 2)), (1, .int p1)] [] S := by
  rw [f_X3_inTimes] at hF
  refine j_iload_n h 1 rfl rfl dX3_inTimes_0 ?_
  refine j_bipush h (v := 44) (by decide) dX3_inTimes_1 ?_
  refine j_icmp_ne h 38 (by decide) dX3_inTimes_3 hF (fun hF => ?_) (fun hF => ?_)
  · refine j_aload_n h 0 rfl rfl dX3_inTimes_6 ?_
    refine j_get h hT.2.1.o inX3 rfl 5 (by decide) rfl q1_198 rfl dX3_inTimes_7 ?_
    refine j_iconst h (v := 2) (by decide) dX3_inTimes_10 ?_
    refine j_icmp_lt h 36 (by decide) dX3_inTimes_11 hF (fun hF => ?_) (fun hF => ?_)
    · refine j_iconst h (v := 4) (by decide) dX3_inTimes_36 ?_
      cases hF
      exact hE _ _ dX3_inTimes_37
    · refine j_aload_n h 0 rfl rfl dX3_inTimes_14 ?_
      refine j_get h hT.2.1.o inX3 rfl 2 (by decide) rfl q1_193 rfl dX3_inTimes_15 ?_
      refine j_aload_n h 0 rfl rfl dX3_inTimes_18 ?_
      refine j_get h hT.2.1.o inX3 rfl 5 (by decide) rfl q1_198 rfl dX3_inTimes_19 ?_
      refine j_iadd h dX3_inTimes_22 ?_
      refine j_bipush h (v := 48) (by decide) dX3_inTimes_23 ?_
      refine j_icmp_ge h 36 (by decide) dX3_inTimes_25 hF (fun hF => ?_) (fun hF => ?_)
      · refine j_iconst h (v := 4) (by decide) dX3_inTimes_36 ?_
        cases hF
        exact hE _ _ dX3_inTimes_37
      · refine j_aload_n h 0 rfl rfl dX3_inTimes_28 ?_
        refine j_iconst h (v := 3) (by decide) dX3_inTimes_29 ?_
        obtain ⟨r_1, hr_1, hF⟩ := bind_row hF
        refine j_callVi h (st := []) (S' := r_1.2) (c_X3_endItem X.l X.D X.cI X.cZ X.cV hT S (3 : Int32) hr_1) rfl rfl q3_64 cw_X3_endItem hT.2.1.o rfl rfl rfl ⟨rfl, rfl, Nat.le_of_ble_eq_true rfl, Nat.le_of_ble_eq_true rfl⟩ _ rfl (Nat.le_of_ble_eq_true rfl) dX3_inTimes_30 ?_
        refine j_goto h 37 (by decide) dX3_inTimes_33 ?_
        cases hF
        exact hE _ _ dX3_inTimes_37
  · refine j_iload_n h 1 rfl rfl dX3_inTimes_38 ?_
    obtain ⟨r_2, hr_2, hF⟩ := bind_row hF
    refine j_callSz h (st := []) (S' := S) (c_X3_isDigit X.l X.D X.cI X.cZ X.cV (B := X.B) S p1 hr_2) rfl rfl q3_57 cw_X3_isDigit rfl ⟨rfl, rfl, Nat.le_of_ble_eq_true rfl, Nat.le_of_ble_eq_true rfl⟩ _ rfl (Nat.le_of_ble_eq_true rfl) dX3_inTimes_39 (fun hz_r_2 => ?_)
    refine j_if_eq h 67 (by decide) dX3_inTimes_42 hF (fun hF => ?_) (fun hF => ?_)
    · refine j_iconst h (v := 4) (by decide) dX3_inTimes_67 ?_
      cases hF
      exact hE _ _ dX3_inTimes_68
    · refine j_aload_n h 0 rfl rfl dX3_inTimes_45 ?_
      refine j_get h hT.2.1.o inX3 rfl 2 (by decide) rfl q1_193 rfl dX3_inTimes_46 ?_
      refine j_aload_n h 0 rfl rfl dX3_inTimes_49 ?_
      refine j_get h hT.2.1.o inX3 rfl 5 (by decide) rfl q1_198 rfl dX3_inTimes_50 ?_
      refine j_bipush h (v := 10) (by decide) dX3_inTimes_53 ?_
      refine j_imul h dX3_inTimes_55 ?_
      refine j_iadd h dX3_inTimes_56 ?_
      refine j_iload_n h 1 rfl rfl dX3_inTimes_57 ?_
      refine j_iadd h dX3_inTimes_58 ?_
      refine j_bipush h (v := 48) (by decide) dX3_inTimes_59 ?_
      refine j_isub h dX3_inTimes_61 ?_
      refine j_bipush h (v := 48) (by decide) dX3_inTimes_62 ?_
      refine j_icmp_le h 69 (by decide) dX3_inTimes_64 hF (fun hF => ?_) (fun hF => ?_)
      · refine j_aload_n h 0 rfl rfl dX3_inTimes_69 ?_
        refine j_aload_n h 0 rfl rfl dX3_inTimes_70 ?_
        refine j_get h hT.2.1.o inX3 rfl 5 (by decide) rfl q1_198 rfl dX3_inTimes_71 ?_
        refine j_bipush h (v := 10) (by decide) dX3_inTimes_74 ?_
        refine j_imul h dX3_inTimes_76 ?_
        refine j_iload_n h 1 rfl rfl dX3_inTimes_77 ?_
        refine j_iadd h dX3_inTimes_78 ?_
        refine j_bipush h (v := 48) (by decide) dX3_inTimes_79 ?_
        refine j_isub h dX3_inTimes_81 ?_
        refine j_put h (hT.2.2.2.2) inX3 tyX3_ok nmX3 rfl (by decide) rfl q1_198 (Nat.le_of_ble_eq_true rfl) dX3_inTimes_82 ?_
        refine j_letS hF (fun S_3 hF => ?_)
        refine j_iconst h (v := 3) (by decide) dX3_inTimes_85 ?_
        cases hF
        exact hE _ _ dX3_inTimes_86
      · refine j_iconst h (v := 4) (by decide) dX3_inTimes_67 ?_
        cases hF
        exact hE _ _ dX3_inTimes_68
theorem c_X3_inTimes (l : Launch) (D : va_G) (cI cZ cV : ClassId) {B : VS → va_W} {ad : Nat → Nat} (hT : IsText cI B ad) (S : VS) (p1 : Int32) {r : Int32 × VS} (hF : f_X3_inTimes S p1 = some r) : CTi l D (jtys cI cZ cV) yX3_inTimes cX3_inTimes 2 (some .int) rmX3_inTimes B [.ref (ad 2), .int p1] S r.1 r.2 := by
  refine CTi.of [(0, .ref (ad 2)), (1, .int p1)] rfl (Nat.le_of_ble_eq_true rfl) (by decide) ⟨rfl, rfl⟩ (fun X e1 e2 e3 e4 e5 e6 e7 h hE => ?_)
  subst e1; subst e2; subst e3; subst e4; subst e5; subst e6
  exact k_X3_inTimes h hT e7 hE hF
abbrev rmX3_next : Room := { frames := 3, cells := 0, slots := 0, locals := 65 }
theorem cw_X3_next : CWv RX3 yX3_next cX3_next 3 (some .int) 2 := ⟨q3_51, qs13, q1_7, q3_52, ⟨rfl, by decide +kernel, by decide +kernel, by decide +kernel⟩⟩
set_option maxHeartbeats 4000000 in
set_option maxRecDepth 100000 in
theorem k_X3_next {X : JX VS} {ad : Nat → Nat} (h : OK X RX3 cX3_next rmX3_next) (hT : IsText X.cI X.B ad) (hnL : X.nL = 3) {res : Int32 × VS} {S : VS} {p1 : Int32} {p2 : Int32} (hE : EXi X cX3_next res.1 res.2) (hF : f_X3_next S p1 p2 = some res) : J X 0 [(0, .ref (ad 2)), (1, .int p1), (2, .int p2)] [] S := by
  rw [f_X3_next] at hF
  refine j_iload_n h 1 rfl rfl dX3_next_0 ?_
  refine j_case hF (fun g_1 hF => ?_) (fun g_1 hF => ?_)
  · refine j_tableIn h (27) 28 0 g_1 (by decide) (by decide) (by decide) (by decide) dX3_next_1 ?_
    refine j_aload_n h 0 rfl rfl dX3_next_28 ?_
    refine j_iload_n h 2 rfl rfl dX3_next_29 ?_
    obtain ⟨r_2, hr_2, hF⟩ := bind_row hF
    refine j_callVi h (st := []) (S' := r_2.2) (c_X3_beginNumber X.l X.D X.cI X.cZ X.cV hT S p2 hr_2) rfl rfl q3_53 cw_X3_beginNumber hT.2.1.o rfl rfl rfl ⟨rfl, rfl, Nat.le_of_ble_eq_true rfl, Nat.le_of_ble_eq_true rfl⟩ _ rfl (Nat.le_of_ble_eq_true rfl) dX3_next_30 ?_
    cases hF
    exact hE _ _ dX3_next_33
  · have g_1 := sw_ne g_1 (n := 0) (by decide)
    refine j_case hF (fun g_3 hF => ?_) (fun g_3 hF => ?_)
    · refine j_tableIn h (33) 34 1 g_3 (by decide) (by decide) (by decide) (by decide) dX3_next_1 ?_
      refine j_aload_n h 0 rfl rfl dX3_next_34 ?_
      refine j_iload_n h 2 rfl rfl dX3_next_35 ?_
      obtain ⟨r_4, hr_4, hF⟩ := bind_row hF
      refine j_callVi h (st := []) (S' := r_4.2) (c_X3_inNumber X.l X.D X.cI X.cZ X.cV hT S p2 hr_4) rfl rfl q3_60 cw_X3_inNumber hT.2.1.o rfl rfl rfl ⟨rfl, rfl, Nat.le_of_ble_eq_true rfl, Nat.le_of_ble_eq_true rfl⟩ _ rfl (Nat.le_of_ble_eq_true rfl) dX3_next_36 ?_
      cases hF
      exact hE _ _ dX3_next_39
    · have g_3 := sw_ne g_3 (n := 1) (by decide)
      refine j_case hF (fun g_5 hF => ?_) (fun g_5 hF => ?_)
      · refine j_tableIn h (39) 40 2 g_5 (by decide) (by decide) (by decide) (by decide) dX3_next_1 ?_
        refine j_aload_n h 0 rfl rfl dX3_next_40 ?_
        refine j_iload_n h 2 rfl rfl dX3_next_41 ?_
        obtain ⟨r_6, hr_6, hF⟩ := bind_row hF
        refine j_callVi h (st := []) (S' := r_6.2) (c_X3_beginTimes X.l X.D X.cI X.cZ X.cV hT S p2 hr_6) rfl rfl q3_69 cw_X3_beginTimes hT.2.1.o rfl rfl rfl ⟨rfl, rfl, Nat.le_of_ble_eq_true rfl, Nat.le_of_ble_eq_true rfl⟩ _ rfl (Nat.le_of_ble_eq_true rfl) dX3_next_42 ?_
        cases hF
        exact hE _ _ dX3_next_45
      · have g_5 := sw_ne g_5 (n := 2) (by decide)
        refine j_tableOut h 46 (by omega) (by decide) dX3_next_1 ?_
        refine j_aload_n h 0 rfl rfl dX3_next_46 ?_
        refine j_iload_n h 2 rfl rfl dX3_next_47 ?_
        obtain ⟨r_7, hr_7, hF⟩ := bind_row hF
        refine j_callVi h (st := []) (S' := r_7.2) (c_X3_inTimes X.l X.D X.cI X.cZ X.cV hT S p2 hr_7) rfl rfl q3_73 cw_X3_inTimes hT.2.1.o rfl rfl rfl ⟨rfl, rfl, Nat.le_of_ble_eq_true rfl, Nat.le_of_ble_eq_true rfl⟩ _ rfl (Nat.le_of_ble_eq_true rfl) dX3_next_48 ?_
        cases hF
        exact hE _ _ dX3_next_51
theorem c_X3_next (l : Launch) (D : va_G) (cI cZ cV : ClassId) {B : VS → va_W} {ad : Nat → Nat} (hT : IsText cI B ad) (S : VS) (p1 : Int32) (p2 : Int32) {r : Int32 × VS} (hF : f_X3_next S p1 p2 = some r) : CTi l D (jtys cI cZ cV) yX3_next cX3_next 3 (some .int) rmX3_next B [.ref (ad 2), .int p1, .int p2] S r.1 r.2 := by
  refine CTi.of [(0, .ref (ad 2)), (1, .int p1), (2, .int p2)] rfl (Nat.le_of_ble_eq_true rfl) (by decide) ⟨rfl, rfl⟩ (fun X e1 e2 e3 e4 e5 e6 e7 h hE => ?_)
  subst e1; subst e2; subst e3; subst e4; subst e5; subst e6
  exact k_X3_next h hT e7 hE hF
abbrev rmX3_isWhole : Room := { frames := 0, cells := 0, slots := 0, locals := 0 }
theorem cw_X3_isWhole : CWv RX3 yX3_isWhole cX3_isWhole 2 (some .boolean) 1 := ⟨q3_79, qs19, q1_7, q3_80, ⟨rfl, by decide +kernel, by decide +kernel, by decide +kernel⟩⟩
set_option maxHeartbeats 4000000 in
set_option maxRecDepth 100000 in
theorem k_X3_isWhole {X : JX VS} {ad : Nat → Nat} (h : OK X RX3 cX3_isWhole rmX3_isWhole) (hT : IsText X.cI X.B ad) (hnL : X.nL = 2) {res : Int32} {S : VS} {p1 : Int32} (hE : EXz X cX3_isWhole res S) (hF : f_X3_isWhole S p1 = some res) : J X 0 [(0, .ref (ad 2)), (1, .int p1)] [] S := by
  rw [f_X3_isWhole] at hF
  refine j_iload_n h 1 rfl rfl dX3_isWhole_0 ?_
  refine j_iconst h (v := 1) (by decide) dX3_isWhole_1 ?_
  refine j_icmp_eq h 18 (by decide) dX3_isWhole_2 hF (fun hF => ?_) (fun hF => ?_)
  · refine j_iconst h (v := 1) (by decide) dX3_isWhole_18 ?_
    refine j_goto h 23 (by decide) dX3_isWhole_19 ?_
    cases hF
    exact hE _ _ dX3_isWhole_23 (isB_v (y := (1 : Int32)) (by decide))
  · refine j_iload_n h 1 rfl rfl dX3_isWhole_5 ?_
    refine j_iconst h (v := 3) (by decide) dX3_isWhole_6 ?_
    refine j_icmp_ne h 22 (by decide) dX3_isWhole_7 hF (fun hF => ?_) (fun hF => ?_)
    · refine j_aload_n h 0 rfl rfl dX3_isWhole_10 ?_
      refine j_get h hT.2.1.o inX3 rfl 5 (by decide) rfl q1_198 rfl dX3_isWhole_11 ?_
      refine j_iconst h (v := 2) (by decide) dX3_isWhole_14 ?_
      refine j_icmp_lt h 22 (by decide) dX3_isWhole_15 hF (fun hF => ?_) (fun hF => ?_)
      · refine j_iconst h (v := 0) (by decide) dX3_isWhole_22 ?_
        cases hF
        exact hE _ _ dX3_isWhole_23 (isB_v (y := (0 : Int32)) (by decide))
      · refine j_iconst h (v := 1) (by decide) dX3_isWhole_18 ?_
        refine j_goto h 23 (by decide) dX3_isWhole_19 ?_
        cases hF
        exact hE _ _ dX3_isWhole_23 (isB_v (y := (1 : Int32)) (by decide))
    · refine j_iconst h (v := 0) (by decide) dX3_isWhole_22 ?_
      cases hF
      exact hE _ _ dX3_isWhole_23 (isB_v (y := (0 : Int32)) (by decide))
theorem c_X3_isWhole (l : Launch) (D : va_G) (cI cZ cV : ClassId) {B : VS → va_W} {ad : Nat → Nat} (hT : IsText cI B ad) (S : VS) (p1 : Int32) {r : Int32} (hF : f_X3_isWhole S p1 = some r) : CTz l D (jtys cI cZ cV) yX3_isWhole cX3_isWhole 2 (some .boolean) rmX3_isWhole B [.ref (ad 2), .int p1] S r S := by
  refine CTz.of [(0, .ref (ad 2)), (1, .int p1)] rfl (Nat.le_of_ble_eq_true rfl) (by decide) ⟨rfl, rfl⟩ (fun X e1 e2 e3 e4 e5 e6 e7 h hE => ?_)
  subst e1; subst e2; subst e3; subst e4; subst e5; subst e6
  exact k_X3_isWhole h hT e7 hE hF
abbrev rmX3_firstFault : Room := { frames := 4, cells := 0, slots := 0, locals := 87 }
theorem cw_X3_firstFault : CWv RX3 yX3_firstFault cX3_firstFault 3 (some .int) 0 := ⟨q3_46, q3_47, q1_7, q3_48, ⟨rfl, by decide +kernel, by decide +kernel, by decide +kernel⟩⟩
set_option maxHeartbeats 4000000 in
set_option maxRecDepth 100000 in
theorem k_X3_firstFault_9 {X : JX VS} {ad : Nat → Nat} (h : OK X RX3 cX3_firstFault rmX3_firstFault) (hT : IsText X.cI X.B ad) (hnL : X.nL = 3) {res : Int32 × VS} (hE : EXi X cX3_firstFault res.1 res.2) : ∀ (n : Nat) (x1 : Int32) (x2 : Int32) (S : VS), f_X3_firstFault_9 n x1 x2 S = some res → J X 9 [(0, .ref (ad 2)), (1, .int x1), (2, .int x2)] [] S := by
  intro n
  induction n with
  | zero =>
    intro x1 x2 S hF
    rw [f_X3_firstFault_9] at hF
    cases hF
  | succ n ih =>
    intro x1 x2 S hF
    rw [f_X3_firstFault_9] at hF
    refine j_iload_n h 2 rfl rfl dX3_firstFault_9 ?_
    refine j_aload_n h 0 rfl rfl dX3_firstFault_10 ?_
    refine j_get h hT.2.1.o inX3 rfl 0 (by decide) rfl q1_189 rfl dX3_firstFault_11 ?_
    refine j_icmp_ge h 42 (by decide) dX3_firstFault_14 hF (fun hF => ?_) (fun hF => ?_)
    · refine j_aload_n h 0 rfl rfl dX3_firstFault_42 ?_
      refine j_iload_n h 1 rfl rfl dX3_firstFault_43 ?_
      obtain ⟨r_2, hr_2, hF⟩ := bind_row hF
      refine j_callVz h (st := []) (S' := S) (c_X3_isWhole X.l X.D X.cI X.cZ X.cV hT S x1 hr_2) rfl rfl q3_77 cw_X3_isWhole hT.2.1.o rfl rfl rfl ⟨rfl, rfl, Nat.le_of_ble_eq_true rfl, Nat.le_of_ble_eq_true rfl⟩ _ rfl (Nat.le_of_ble_eq_true rfl) dX3_firstFault_44 (fun hz_r_2 => ?_)
      refine j_if_ne h 55 (by decide) dX3_firstFault_47 hF (fun hF => ?_) (fun hF => ?_)
      · refine j_aload_n h 0 rfl rfl dX3_firstFault_50 ?_
        refine j_get h hT.2.1.o inX3 rfl 0 (by decide) rfl q1_189 rfl dX3_firstFault_51 ?_
        cases hF
        exact hE _ _ dX3_firstFault_54
      · refine j_aload_n h 0 rfl rfl dX3_firstFault_55 ?_
        refine j_iload_n h 1 rfl rfl dX3_firstFault_56 ?_
        obtain ⟨r_3, hr_3, hF⟩ := bind_row hF
        refine j_callVi h (st := []) (S' := r_3.2) (c_X3_endItem X.l X.D X.cI X.cZ X.cV hT S x1 hr_3) rfl rfl q3_64 cw_X3_endItem hT.2.1.o rfl rfl rfl ⟨rfl, rfl, Nat.le_of_ble_eq_true rfl, Nat.le_of_ble_eq_true rfl⟩ _ rfl (Nat.le_of_ble_eq_true rfl) dX3_firstFault_57 ?_
        refine j_pop h rfl dX3_firstFault_60 ?_
        refine j_ldc h (v := -1000001) q3_81 dX3_firstFault_61 ?_
        cases hF
        exact hE _ _ dX3_firstFault_63
    · refine j_aload_n h 0 rfl rfl dX3_firstFault_17 ?_
      refine j_iload_n h 1 rfl rfl dX3_firstFault_18 ?_
      refine j_aload_n h 0 rfl rfl dX3_firstFault_19 ?_
      refine j_get h hT.2.1.o inX3 rfl 1 (by decide) rfl q1_191 rfl dX3_firstFault_20 ?_
      refine j_iload_n h 2 rfl rfl dX3_firstFault_23 ?_
      obtain ⟨hb_4, hF⟩ := bnd_row hF
      refine ja_iald h (get := fun v => v) (put := fun _ v => v) (hT.1 0 (by decide)) hb_4 dX3_firstFault_24 ?_
      obtain ⟨r_5, hr_5, hF⟩ := bind_row hF
      refine j_callVi h (st := []) (S' := r_5.2) (c_X3_next X.l X.D X.cI X.cZ X.cV hT S x1 (rd S 0 x2) hr_5) rfl rfl q3_49 cw_X3_next hT.2.1.o rfl rfl rfl ⟨rfl, rfl, Nat.le_of_ble_eq_true rfl, Nat.le_of_ble_eq_true rfl⟩ _ rfl (Nat.le_of_ble_eq_true rfl) dX3_firstFault_25 ?_
      refine j_istore_n h hnL [(1, .int r_5.1), (0, .ref (ad 2)), (2, .int x2)] rfl (by decide) rfl dX3_firstFault_28 ?_
      refine j_iload_n h 0 rfl rfl dX3_firstFault_29 ?_
      refine j_iconst h (v := 4) (by decide) dX3_firstFault_30 ?_
      refine j_icmp_ne h 36 (by decide) dX3_firstFault_31 hF (fun hF => ?_) (fun hF => ?_)
      · refine j_iload_n h 2 rfl rfl dX3_firstFault_34 ?_
        cases hF
        exact hE _ _ dX3_firstFault_35
      · refine j_iincL hF (fun x_6 ex_6 hF => ?_)
        refine j_iinc h hnL 2 [(2, .int x_6), (1, .int r_5.1), (0, .ref (ad 2))] rfl ex_6 (by decide) (by decide) rfl dX3_firstFault_36 ?_
        refine j_goto h 9 (by decide) dX3_firstFault_39 ?_
        exact j_sub [2, 1, 0] rfl (ih _ _ _ hF)
set_option maxHeartbeats 4000000 in
set_option maxRecDepth 100000 in
theorem k_X3_firstFault {X : JX VS} {ad : Nat → Nat} (h : OK X RX3 cX3_firstFault rmX3_firstFault) (hT : IsText X.cI X.B ad) (hnL : X.nL = 3) {res : Int32 × VS} {S : VS} (hE : EXi X cX3_firstFault res.1 res.2) (hF : f_X3_firstFault S = some res) : J X 0 [(0, .ref (ad 2))] [] S := by
  rw [f_X3_firstFault] at hF
  refine j_aload_n h 0 rfl rfl dX3_firstFault_0 ?_
  refine j_iconst h (v := 0) (by decide) dX3_firstFault_1 ?_
  refine j_put h (hT.2.2.1) inX3 tyX3_ok nmX3 rfl (by decide) rfl q1_193 (Nat.le_of_ble_eq_true rfl) dX3_firstFault_2 ?_
  refine j_letS hF (fun S_1 hF => ?_)
  refine j_iconst h (v := 0) (by decide) dX3_firstFault_5 ?_
  refine j_istore_n h hnL [(1, .int (0 : Int32)), (0, .ref (ad 2))] rfl (by decide) rfl dX3_firstFault_6 ?_
  refine j_iconst h (v := 0) (by decide) dX3_firstFault_7 ?_
  refine j_istore_n h hnL [(2, .int (0 : Int32)), (1, .int (0 : Int32)), (0, .ref (ad 2))] rfl (by decide) rfl dX3_firstFault_8 ?_
  exact j_sub [2, 1, 0] rfl (k_X3_firstFault_9 h hT hnL hE fuel _ _ _ hF)
theorem c_X3_firstFault (l : Launch) (D : va_G) (cI cZ cV : ClassId) {B : VS → va_W} {ad : Nat → Nat} (hT : IsText cI B ad) (S : VS) {r : Int32 × VS} (hF : f_X3_firstFault S = some r) : CTi l D (jtys cI cZ cV) yX3_firstFault cX3_firstFault 3 (some .int) rmX3_firstFault B [.ref (ad 2)] S r.1 r.2 := by
  refine CTi.of [(0, .ref (ad 2))] rfl (Nat.le_of_ble_eq_true rfl) (by decide) ⟨rfl, rfl⟩ (fun X e1 e2 e3 e4 e5 e6 e7 h hE => ?_)
  subst e1; subst e2; subst e3; subst e4; subst e5; subst e6
  exact k_X3_firstFault h hT e7 hE hF
