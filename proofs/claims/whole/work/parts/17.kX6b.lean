abbrev rmX6_house : Room := { frames := 2, cells := 0, slots := 0, locals := 45 }
theorem cw_X6_house : CWv RX6 yX6_house cX6_house 3 (some .int) 2 := ⟨q3_109, q3_110, q1_1, q3_111, ⟨rfl, by decide +kernel, by decide +kernel, by decide +kernel⟩⟩
set_option maxHeartbeats 4000000 in
set_option maxRecDepth 100000 in
theorem k_X6_house {X : JX PS} {AD : Nat → Nat → Nat} (h : OK X RX6 cX6_house rmX6_house) (hP : IsPool X.cI X.cZ X.cV X.B AD) (hnL : X.nL = 3) {res : Int32} {S : PS} {p1 : Int32} {p2 : Int32} (hE : EXi X cX6_house res S) (hF : f_X6_house S p1 p2 = some res) : J X 0 [(0, .ref (AD 12 7)), (1, .int p1), (2, .int p2)] [] S := by
  rw [f_X6_house] at hF
  refine j_aload_n h 0 rfl rfl dX6_house_0 ?_
  refine j_iload_n h 1 rfl rfl dX6_house_1 ?_
  obtain ⟨r_1, hr_1, hF⟩ := bind_row hF
  refine j_callVz h (st := []) (S' := S) (c_X6_isHouse X.l X.D X.cI X.cZ X.cV hP S p1 hr_1) rfl rfl q2_43 cw_X6_isHouse hP.2.2.2.2.2.1 rfl rfl rfl ⟨rfl, rfl, Nat.le_of_ble_eq_true rfl, Nat.le_of_ble_eq_true rfl⟩ _ rfl (Nat.le_of_ble_eq_true rfl) dX6_house_2 (fun hz_r_1 => ?_)
  refine j_if_eq h 18 (by decide) dX6_house_5 hF (fun hF => ?_) (fun hF => ?_)
  · refine j_ldc h (v := -1000002) q1_239 dX6_house_18 ?_
    cases hF
    exact hE _ _ dX6_house_20
  · refine j_iload_n h 2 rfl rfl dX6_house_8 ?_
    refine j_iconst h (v := 0) (by decide) dX6_house_9 ?_
    refine j_bipush h (v := 10) (by decide) dX6_house_10 ?_
    obtain ⟨r_2, hr_2, hF⟩ := bind_row hF
    refine j_callSz h (st := []) (S' := S) (c_X6_within X.l X.D X.cI X.cZ X.cV (B := X.B) S p2 (0 : Int32) (10 : Int32) hr_2) rfl rfl q1_236 cw_X6_within rfl ⟨rfl, rfl, Nat.le_of_ble_eq_true rfl, Nat.le_of_ble_eq_true rfl⟩ _ rfl (Nat.le_of_ble_eq_true rfl) dX6_house_12 (fun hz_r_2 => ?_)
    refine j_if_ne h 21 (by decide) dX6_house_15 hF (fun hF => ?_) (fun hF => ?_)
    · refine j_ldc h (v := -1000002) q1_239 dX6_house_18 ?_
      cases hF
      exact hE _ _ dX6_house_20
    · refine j_iload_n h 2 rfl rfl dX6_house_21 ?_
      refine j_case hF (fun g_3 hF => ?_) (fun g_3 hF => ?_)
      · refine j_lookup h (34) 56 (by decide) (by rw [g_3]; decide) (by decide) dX6_house_22 ?_
        refine j_aload_n h 0 rfl rfl dX6_house_56 ?_
        refine j_get h hP.2.2.2.2.2.1 inX6 rfl 0 (by decide) rfl q1_213 rfl dX6_house_57 ?_
        refine j_get h (hP.1 0 (by decide)).2.2.2.2.1.o inX5 rfl 0 (by decide) rfl q1_123 rfl dX6_house_60 ?_
        refine j_iload_n h 1 rfl rfl dX6_house_63 ?_
        refine j_aload_n h 0 rfl rfl dX6_house_64 ?_
        refine j_get h hP.2.2.2.2.2.1 inX6 rfl 0 (by decide) rfl q1_213 rfl dX6_house_65 ?_
        refine j_get h (hP.1 0 (by decide)).2.2.2.2.1.o inX5 rfl 3 (by decide) rfl q1_129 rfl dX6_house_68 ?_
        refine j_iconst h (v := 0) (by decide) dX6_house_71 ?_
        obtain ⟨hb_4, hF⟩ := bnd_row hF
        refine ja_iald h (get := fun S => S.1 0) (put := fun S v => setV S 0 v) ((hP.1 0 (by decide)).1 17 (by decide)) hb_4 dX6_house_72 ?_
        obtain ⟨r_5, hr_5, hF⟩ := bind_row hF
        refine j_callVi h (st := []) (S' := S) (c_X2_canDraw X.l X.D X.cI X.cZ X.cV (hP.v S 0 (by decide)) (S.1 0) p1 (rd (S.1 0) 17 (0 : Int32)) hr_5) (congrArg X.B (setV_id S 0)) (congrArg X.B (setV_id S 0)) q3_112 cw_X2_canDraw (hP.1 0 (by decide)).2.1.o rfl rfl rfl ⟨rfl, rfl, Nat.le_of_ble_eq_true rfl, Nat.le_of_ble_eq_true rfl⟩ _ rfl (Nat.le_of_ble_eq_true rfl) dX6_house_73 ?_
        cases hF
        exact hE _ _ dX6_house_76
      · have g_3 := sw_ne g_3 (n := 5) (by decide)
        refine j_case hF (fun g_6 hF => ?_) (fun g_6 hF => ?_)
        · refine j_lookup h (55) 77 (by decide) (by rw [g_6]; decide) (by decide) dX6_house_22 ?_
          refine j_aload_n h 0 rfl rfl dX6_house_77 ?_
          refine j_get h hP.2.2.2.2.2.1 inX6 rfl 0 (by decide) rfl q1_213 rfl dX6_house_78 ?_
          refine j_get h (hP.1 0 (by decide)).2.2.2.2.1.o inX5 rfl 1 (by decide) rfl q1_125 rfl dX6_house_81 ?_
          refine j_iload_n h 1 rfl rfl dX6_house_84 ?_
          obtain ⟨r_7, hr_7, hF⟩ := bind_row hF
          refine j_callVi h (st := []) (S' := S) (c_X4_owedBy X.l X.D X.cI X.cZ X.cV (hP.v S 0 (by decide)) (S.1 0) p1 hr_7) (congrArg X.B (setV_id S 0)) (congrArg X.B (setV_id S 0)) q3_113 cw_X4_owedBy (hP.1 0 (by decide)).2.2.1.o rfl rfl rfl ⟨rfl, rfl, Nat.le_of_ble_eq_true rfl, Nat.le_of_ble_eq_true rfl⟩ _ rfl (Nat.le_of_ble_eq_true rfl) dX6_house_85 ?_
          cases hF
          exact hE _ _ dX6_house_88
        · have g_6 := sw_ne g_6 (n := 9) (by decide)
          refine j_case hF (fun g_8 hF => ?_) (fun g_8 hF => ?_)
          · refine j_lookup h (67) 89 (by decide) (by rw [g_8]; decide) (by decide) dX6_house_22 ?_
            refine j_aload_n h 0 rfl rfl dX6_house_89 ?_
            refine j_get h hP.2.2.2.2.2.1 inX6 rfl 0 (by decide) rfl q1_213 rfl dX6_house_90 ?_
            refine j_get h (hP.1 0 (by decide)).2.2.2.2.1.o inX5 rfl 1 (by decide) rfl q1_125 rfl dX6_house_93 ?_
            refine j_iload_n h 1 rfl rfl dX6_house_96 ?_
            obtain ⟨r_9, hr_9, hF⟩ := bind_row hF
            refine j_callVi h (st := []) (S' := S) (c_X4_owedTo X.l X.D X.cI X.cZ X.cV (hP.v S 0 (by decide)) (S.1 0) p1 hr_9) (congrArg X.B (setV_id S 0)) (congrArg X.B (setV_id S 0)) q3_114 cw_X4_owedTo (hP.1 0 (by decide)).2.2.1.o rfl rfl rfl ⟨rfl, rfl, Nat.le_of_ble_eq_true rfl, Nat.le_of_ble_eq_true rfl⟩ _ rfl (Nat.le_of_ble_eq_true rfl) dX6_house_97 ?_
            cases hF
            exact hE _ _ dX6_house_100
          · have g_8 := sw_ne g_8 (n := 10) (by decide)
            refine j_lookup h (79) 101 (by decide) (by show Op.lookupswitch.offset [(5, 34), (9, 55), (10, 67)] (79) _ = (79); simp only [Op.lookupswitch.offset_cons, Op.lookupswitch.offset_nil]; rw [if_neg (Ne.symm g_3), if_neg (Ne.symm g_6), if_neg (Ne.symm g_8)]) (by decide) dX6_house_22 ?_
            refine j_aload_n h 0 rfl rfl dX6_house_101 ?_
            refine j_get h hP.2.2.2.2.2.1 inX6 rfl 0 (by decide) rfl q1_213 rfl dX6_house_102 ?_
            refine j_get h (hP.1 0 (by decide)).2.2.2.2.1.o inX5 rfl 0 (by decide) rfl q1_123 rfl dX6_house_105 ?_
            refine j_iload_n h 1 rfl rfl dX6_house_108 ?_
            refine j_iload_n h 2 rfl rfl dX6_house_109 ?_
            obtain ⟨r_10, hr_10, hF⟩ := bind_row hF
            refine j_callVi h (st := []) (S' := S) (c_X2_told X.l X.D X.cI X.cZ X.cV (hP.v S 0 (by decide)) (S.1 0) p1 p2 hr_10) (congrArg X.B (setV_id S 0)) (congrArg X.B (setV_id S 0)) q2_49 cw_X2_told (hP.1 0 (by decide)).2.1.o rfl rfl rfl ⟨rfl, rfl, Nat.le_of_ble_eq_true rfl, Nat.le_of_ble_eq_true rfl⟩ _ rfl (Nat.le_of_ble_eq_true rfl) dX6_house_110 ?_
            cases hF
            exact hE _ _ dX6_house_113
theorem c_X6_house (l : Launch) (D : va_G) (cI cZ cV : ClassId) {B : PS → va_W} {AD : Nat → Nat → Nat} (hP : IsPool cI cZ cV B AD) (S : PS) (p1 : Int32) (p2 : Int32) {r : Int32} (hF : f_X6_house S p1 p2 = some r) : CTi l D (jtys cI cZ cV) yX6_house cX6_house 3 (some .int) rmX6_house B [.ref (AD 12 7), .int p1, .int p2] S r S := by
  refine CTi.of [(0, .ref (AD 12 7)), (1, .int p1), (2, .int p2)] rfl (Nat.le_of_ble_eq_true rfl) (by decide) ⟨rfl, rfl⟩ (fun X e1 e2 e3 e4 e5 e6 e7 h hE => ?_)
  subst e1; subst e2; subst e3; subst e4; subst e5; subst e6
  exact k_X6_house h hP e7 hE hF
abbrev rmX6_loan : Room := { frames := 2, cells := 0, slots := 0, locals := 43 }
theorem cw_X6_loan : CWv RX6 yX6_loan cX6_loan 3 (some .int) 2 := ⟨q3_119, q3_120, q1_1, q3_121, ⟨rfl, by decide +kernel, by decide +kernel, by decide +kernel⟩⟩
set_option maxHeartbeats 4000000 in
set_option maxRecDepth 100000 in
theorem k_X6_loan {X : JX PS} {AD : Nat → Nat → Nat} (h : OK X RX6 cX6_loan rmX6_loan) (hP : IsPool X.cI X.cZ X.cV X.B AD) (hnL : X.nL = 3) {res : Int32} {S : PS} {p1 : Int32} {p2 : Int32} (hE : EXi X cX6_loan res S) (hF : f_X6_loan S p1 p2 = some res) : J X 0 [(0, .ref (AD 12 7)), (1, .int p1), (2, .int p2)] [] S := by
  rw [f_X6_loan] at hF
  refine j_aload_n h 0 rfl rfl dX6_loan_0 ?_
  refine j_iload_n h 1 rfl rfl dX6_loan_1 ?_
  obtain ⟨r_1, hr_1, hF⟩ := bind_row hF
  refine j_callVz h (st := []) (S' := S) (c_X6_isLoan X.l X.D X.cI X.cZ X.cV hP S p1 hr_1) rfl rfl q2_125 cw_X6_isLoan hP.2.2.2.2.2.1 rfl rfl rfl ⟨rfl, rfl, Nat.le_of_ble_eq_true rfl, Nat.le_of_ble_eq_true rfl⟩ _ rfl (Nat.le_of_ble_eq_true rfl) dX6_loan_2 (fun hz_r_1 => ?_)
  refine j_if_eq h 17 (by decide) dX6_loan_5 hF (fun hF => ?_) (fun hF => ?_)
  · refine j_ldc h (v := -1000002) q1_239 dX6_loan_17 ?_
    cases hF
    exact hE _ _ dX6_loan_19
  · refine j_iload_n h 2 rfl rfl dX6_loan_8 ?_
    refine j_iconst h (v := 0) (by decide) dX6_loan_9 ?_
    refine j_iconst h (v := 2) (by decide) dX6_loan_10 ?_
    obtain ⟨r_2, hr_2, hF⟩ := bind_row hF
    refine j_callSz h (st := []) (S' := S) (c_X6_within X.l X.D X.cI X.cZ X.cV (B := X.B) S p2 (0 : Int32) (2 : Int32) hr_2) rfl rfl q1_236 cw_X6_within rfl ⟨rfl, rfl, Nat.le_of_ble_eq_true rfl, Nat.le_of_ble_eq_true rfl⟩ _ rfl (Nat.le_of_ble_eq_true rfl) dX6_loan_11 (fun hz_r_2 => ?_)
    refine j_if_ne h 20 (by decide) dX6_loan_14 hF (fun hF => ?_) (fun hF => ?_)
    · refine j_ldc h (v := -1000002) q1_239 dX6_loan_17 ?_
      cases hF
      exact hE _ _ dX6_loan_19
    · refine j_aload_n h 0 rfl rfl dX6_loan_20 ?_
      refine j_get h hP.2.2.2.2.2.1 inX6 rfl 0 (by decide) rfl q1_213 rfl dX6_loan_21 ?_
      refine j_get h (hP.1 0 (by decide)).2.2.2.2.1.o inX5 rfl 1 (by decide) rfl q1_125 rfl dX6_loan_24 ?_
      refine j_iload_n h 1 rfl rfl dX6_loan_27 ?_
      refine j_iload_n h 2 rfl rfl dX6_loan_28 ?_
      obtain ⟨r_3, hr_3, hF⟩ := bind_row hF
      refine j_callVi h (st := []) (S' := S) (c_X4_told X.l X.D X.cI X.cZ X.cV (hP.v S 0 (by decide)) (S.1 0) p1 p2 hr_3) (congrArg X.B (setV_id S 0)) (congrArg X.B (setV_id S 0)) q3_122 cw_X4_told (hP.1 0 (by decide)).2.2.1.o rfl rfl rfl ⟨rfl, rfl, Nat.le_of_ble_eq_true rfl, Nat.le_of_ble_eq_true rfl⟩ _ rfl (Nat.le_of_ble_eq_true rfl) dX6_loan_29 ?_
      cases hF
      exact hE _ _ dX6_loan_32
theorem c_X6_loan (l : Launch) (D : va_G) (cI cZ cV : ClassId) {B : PS → va_W} {AD : Nat → Nat → Nat} (hP : IsPool cI cZ cV B AD) (S : PS) (p1 : Int32) (p2 : Int32) {r : Int32} (hF : f_X6_loan S p1 p2 = some r) : CTi l D (jtys cI cZ cV) yX6_loan cX6_loan 3 (some .int) rmX6_loan B [.ref (AD 12 7), .int p1, .int p2] S r S := by
  refine CTi.of [(0, .ref (AD 12 7)), (1, .int p1), (2, .int p2)] rfl (Nat.le_of_ble_eq_true rfl) (by decide) ⟨rfl, rfl⟩ (fun X e1 e2 e3 e4 e5 e6 e7 h hE => ?_)
  subst e1; subst e2; subst e3; subst e4; subst e5; subst e6
  exact k_X6_loan h hP e7 hE hF
abbrev rmX6_battery : Room := { frames := 3, cells := 0, slots := 0, locals := 64 }
theorem cw_X6_battery : CWv RX6 yX6_battery cX6_battery 3 (some .int) 2 := ⟨q3_127, q3_128, q1_1, q3_129, ⟨rfl, by decide +kernel, by decide +kernel, by decide +kernel⟩⟩
set_option maxHeartbeats 4000000 in
set_option maxRecDepth 100000 in
theorem k_X6_battery {X : JX PS} {AD : Nat → Nat → Nat} (h : OK X RX6 cX6_battery rmX6_battery) (hP : IsPool X.cI X.cZ X.cV X.B AD) (hnL : X.nL = 3) {res : Int32} {S : PS} {p1 : Int32} {p2 : Int32} (hE : EXi X cX6_battery res S) (hF : f_X6_battery S p1 p2 = some res) : J X 0 [(0, .ref (AD 12 7)), (1, .int p1), (2, .int p2)] [] S := by
  rw [f_X6_battery] at hF
  refine j_iload_n h 1 rfl rfl dX6_battery_0 ?_
  obtain ⟨r_1, hr_1, hF⟩ := bind_row hF
  refine j_callSz h (st := []) (S' := S) (c_X6_isBattery X.l X.D X.cI X.cZ X.cV (B := X.B) S p1 hr_1) rfl rfl q2_161 cw_X6_isBattery rfl ⟨rfl, rfl, Nat.le_of_ble_eq_true rfl, Nat.le_of_ble_eq_true rfl⟩ _ rfl (Nat.le_of_ble_eq_true rfl) dX6_battery_1 (fun hz_r_1 => ?_)
  refine j_if_eq h 16 (by decide) dX6_battery_4 hF (fun hF => ?_) (fun hF => ?_)
  · refine j_ldc h (v := -1000002) q1_239 dX6_battery_16 ?_
    cases hF
    exact hE _ _ dX6_battery_18
  · refine j_iload_n h 2 rfl rfl dX6_battery_7 ?_
    refine j_iconst h (v := 0) (by decide) dX6_battery_8 ?_
    refine j_iconst h (v := 4) (by decide) dX6_battery_9 ?_
    obtain ⟨r_2, hr_2, hF⟩ := bind_row hF
    refine j_callSz h (st := []) (S' := S) (c_X6_within X.l X.D X.cI X.cZ X.cV (B := X.B) S p2 (0 : Int32) (4 : Int32) hr_2) rfl rfl q1_236 cw_X6_within rfl ⟨rfl, rfl, Nat.le_of_ble_eq_true rfl, Nat.le_of_ble_eq_true rfl⟩ _ rfl (Nat.le_of_ble_eq_true rfl) dX6_battery_10 (fun hz_r_2 => ?_)
    refine j_if_ne h 19 (by decide) dX6_battery_13 hF (fun hF => ?_) (fun hF => ?_)
    · refine j_ldc h (v := -1000002) q1_239 dX6_battery_16 ?_
      cases hF
      exact hE _ _ dX6_battery_18
    · refine j_aload_n h 0 rfl rfl dX6_battery_19 ?_
      refine j_get h hP.2.2.2.2.2.1 inX6 rfl 0 (by decide) rfl q1_213 rfl dX6_battery_20 ?_
      refine j_get h (hP.1 0 (by decide)).2.2.2.2.1.o inX5 rfl 2 (by decide) rfl q1_127 rfl dX6_battery_23 ?_
      refine j_iload_n h 1 rfl rfl dX6_battery_26 ?_
      refine j_iload_n h 2 rfl rfl dX6_battery_27 ?_
      obtain ⟨r_3, hr_3, hF⟩ := bind_row hF
      refine j_callVi h (st := []) (S' := S) (c_X0_told X.l X.D X.cI X.cZ X.cV (hP.v S 0 (by decide)) (S.1 0) p1 p2 hr_3) (congrArg X.B (setV_id S 0)) (congrArg X.B (setV_id S 0)) q2_168 cw_X0_told (hP.1 0 (by decide)).2.2.2.1 rfl rfl rfl ⟨rfl, rfl, Nat.le_of_ble_eq_true rfl, Nat.le_of_ble_eq_true rfl⟩ _ rfl (Nat.le_of_ble_eq_true rfl) dX6_battery_28 ?_
      cases hF
      exact hE _ _ dX6_battery_31
theorem c_X6_battery (l : Launch) (D : va_G) (cI cZ cV : ClassId) {B : PS → va_W} {AD : Nat → Nat → Nat} (hP : IsPool cI cZ cV B AD) (S : PS) (p1 : Int32) (p2 : Int32) {r : Int32} (hF : f_X6_battery S p1 p2 = some r) : CTi l D (jtys cI cZ cV) yX6_battery cX6_battery 3 (some .int) rmX6_battery B [.ref (AD 12 7), .int p1, .int p2] S r S := by
  refine CTi.of [(0, .ref (AD 12 7)), (1, .int p1), (2, .int p2)] rfl (Nat.le_of_ble_eq_true rfl) (by decide) ⟨rfl, rfl⟩ (fun X e1 e2 e3 e4 e5 e6 e7 h hE => ?_)
  subst e1; subst e2; subst e3; subst e4; subst e5; subst e6
  exact k_X6_battery h hP e7 hE hF
abbrev rmX6_feeder : Room := { frames := 3, cells := 0, slots := 0, locals := 67 }
theorem cw_X6_feeder : CWv RX6 yX6_feeder cX6_feeder 3 (some .int) 2 := ⟨q3_131, q3_132, q1_1, q3_133, ⟨rfl, by decide +kernel, by decide +kernel, by decide +kernel⟩⟩
set_option maxHeartbeats 4000000 in
set_option maxRecDepth 100000 in
theorem k_X6_feeder {X : JX PS} {AD : Nat → Nat → Nat} (h : OK X RX6 cX6_feeder rmX6_feeder) (hP : IsPool X.cI X.cZ X.cV X.B AD) (hnL : X.nL = 3) {res : Int32} {S : PS} {p1 : Int32} {p2 : Int32} (hE : EXi X cX6_feeder res S) (hF : f_X6_feeder S p1 p2 = some res) : J X 0 [(0, .ref (AD 12 7)), (1, .int p1), (2, .int p2)] [] S := by
  rw [f_X6_feeder] at hF
  refine j_iload_n h 1 rfl rfl dX6_feeder_0 ?_
  refine j_iconst h (v := 0) (by decide) dX6_feeder_1 ?_
  refine j_iconst h (v := 2) (by decide) dX6_feeder_2 ?_
  obtain ⟨r_1, hr_1, hF⟩ := bind_row hF
  refine j_callSz h (st := []) (S' := S) (c_X6_within X.l X.D X.cI X.cZ X.cV (B := X.B) S p1 (0 : Int32) (2 : Int32) hr_1) rfl rfl q1_236 cw_X6_within rfl ⟨rfl, rfl, Nat.le_of_ble_eq_true rfl, Nat.le_of_ble_eq_true rfl⟩ _ rfl (Nat.le_of_ble_eq_true rfl) dX6_feeder_3 (fun hz_r_1 => ?_)
  refine j_if_eq h 18 (by decide) dX6_feeder_6 hF (fun hF => ?_) (fun hF => ?_)
  · refine j_ldc h (v := -1000002) q1_239 dX6_feeder_18 ?_
    cases hF
    exact hE _ _ dX6_feeder_20
  · refine j_iload_n h 2 rfl rfl dX6_feeder_9 ?_
    refine j_iconst h (v := 0) (by decide) dX6_feeder_10 ?_
    refine j_iconst h (v := 4) (by decide) dX6_feeder_11 ?_
    obtain ⟨r_2, hr_2, hF⟩ := bind_row hF
    refine j_callSz h (st := []) (S' := S) (c_X6_within X.l X.D X.cI X.cZ X.cV (B := X.B) S p2 (0 : Int32) (4 : Int32) hr_2) rfl rfl q1_236 cw_X6_within rfl ⟨rfl, rfl, Nat.le_of_ble_eq_true rfl, Nat.le_of_ble_eq_true rfl⟩ _ rfl (Nat.le_of_ble_eq_true rfl) dX6_feeder_12 (fun hz_r_2 => ?_)
    refine j_if_ne h 21 (by decide) dX6_feeder_15 hF (fun hF => ?_) (fun hF => ?_)
    · refine j_ldc h (v := -1000002) q1_239 dX6_feeder_18 ?_
      cases hF
      exact hE _ _ dX6_feeder_20
    · refine j_iload_n h 2 rfl rfl dX6_feeder_21 ?_
      refine j_case hF (fun g_3 hF => ?_) (fun g_3 hF => ?_)
      · refine j_tableIn h (30) 52 0 g_3 (by decide) (by decide) (by decide) (by decide) dX6_feeder_22 ?_
        refine j_aload_n h 0 rfl rfl dX6_feeder_52 ?_
        refine j_get h hP.2.2.2.2.2.1 inX6 rfl 0 (by decide) rfl q1_213 rfl dX6_feeder_53 ?_
        refine j_get h (hP.1 0 (by decide)).2.2.2.2.1.o inX5 rfl 0 (by decide) rfl q1_123 rfl dX6_feeder_56 ?_
        refine j_iload_n h 1 rfl rfl dX6_feeder_59 ?_
        obtain ⟨r_4, hr_4, hF⟩ := bind_row hF
        refine j_callVi h (st := []) (S' := S) (c_X2_sizeOf X.l X.D X.cI X.cZ X.cV (hP.v S 0 (by decide)) (S.1 0) p1 hr_4) (congrArg X.B (setV_id S 0)) (congrArg X.B (setV_id S 0)) q3_134 cw_X2_sizeOf (hP.1 0 (by decide)).2.1.o rfl rfl rfl ⟨rfl, rfl, Nat.le_of_ble_eq_true rfl, Nat.le_of_ble_eq_true rfl⟩ _ rfl (Nat.le_of_ble_eq_true rfl) dX6_feeder_60 ?_
        cases hF
        exact hE _ _ dX6_feeder_63
      · have g_3 := sw_ne g_3 (n := 0) (by decide)
        refine j_case hF (fun g_5 hF => ?_) (fun g_5 hF => ?_)
        · refine j_tableIn h (42) 64 1 g_5 (by decide) (by decide) (by decide) (by decide) dX6_feeder_22 ?_
          refine j_aload_n h 0 rfl rfl dX6_feeder_64 ?_
          refine j_get h hP.2.2.2.2.2.1 inX6 rfl 0 (by decide) rfl q1_213 rfl dX6_feeder_65 ?_
          refine j_get h (hP.1 0 (by decide)).2.2.2.2.1.o inX5 rfl 0 (by decide) rfl q1_123 rfl dX6_feeder_68 ?_
          refine j_iload_n h 1 rfl rfl dX6_feeder_71 ?_
          refine j_aload_n h 0 rfl rfl dX6_feeder_72 ?_
          refine j_get h hP.2.2.2.2.2.1 inX6 rfl 0 (by decide) rfl q1_213 rfl dX6_feeder_73 ?_
          refine j_get h (hP.1 0 (by decide)).2.2.2.2.1.o inX5 rfl 3 (by decide) rfl q1_129 rfl dX6_feeder_76 ?_
          refine j_iconst h (v := 0) (by decide) dX6_feeder_79 ?_
          obtain ⟨hb_6, hF⟩ := bnd_row hF
          refine ja_iald h (get := fun S => S.1 0) (put := fun S v => setV S 0 v) ((hP.1 0 (by decide)).1 17 (by decide)) hb_6 dX6_feeder_80 ?_
          obtain ⟨r_7, hr_7, hF⟩ := bind_row hF
          refine j_callVi h (st := []) (S' := S) (c_X2_drawnFrom X.l X.D X.cI X.cZ X.cV (hP.v S 0 (by decide)) (S.1 0) p1 (rd (S.1 0) 17 (0 : Int32)) hr_7) (congrArg X.B (setV_id S 0)) (congrArg X.B (setV_id S 0)) q3_138 cw_X2_drawnFrom (hP.1 0 (by decide)).2.1.o rfl rfl rfl ⟨rfl, rfl, Nat.le_of_ble_eq_true rfl, Nat.le_of_ble_eq_true rfl⟩ _ rfl (Nat.le_of_ble_eq_true rfl) dX6_feeder_81 ?_
          cases hF
          exact hE _ _ dX6_feeder_84
        · have g_5 := sw_ne g_5 (n := 1) (by decide)
          refine j_case hF (fun g_8 hF => ?_) (fun g_8 hF => ?_)
          · refine j_tableIn h (63) 85 2 g_8 (by decide) (by decide) (by decide) (by decide) dX6_feeder_22 ?_
            refine j_aload_n h 0 rfl rfl dX6_feeder_85 ?_
            refine j_get h hP.2.2.2.2.2.1 inX6 rfl 0 (by decide) rfl q1_213 rfl dX6_feeder_86 ?_
            refine j_get h (hP.1 0 (by decide)).2.2.2.2.1.o inX5 rfl 0 (by decide) rfl q1_123 rfl dX6_feeder_89 ?_
            refine j_iload_n h 1 rfl rfl dX6_feeder_92 ?_
            refine j_aload_n h 0 rfl rfl dX6_feeder_93 ?_
            refine j_get h hP.2.2.2.2.2.1 inX6 rfl 0 (by decide) rfl q1_213 rfl dX6_feeder_94 ?_
            refine j_get h (hP.1 0 (by decide)).2.2.2.2.1.o inX5 rfl 0 (by decide) rfl q1_123 rfl dX6_feeder_97 ?_
            refine j_get h (hP.1 0 (by decide)).2.1.o inX2 rfl 5 (by decide) rfl q1_44 rfl dX6_feeder_100 ?_
            obtain ⟨r_9, hr_9, hF⟩ := bind_row hF
            refine j_callVi h (st := []) (S' := S) (c_X2_sumFrom X.l X.D X.cI X.cZ X.cV (hP.v S 0 (by decide)) (by decide) (S.1 0) p1 hr_9) (congrArg X.B (setV_id S 0)) (congrArg X.B (setV_id S 0)) q3_142 cw_X2_sumFrom (hP.1 0 (by decide)).2.1.o rfl rfl rfl ⟨rfl, rfl, Nat.le_of_ble_eq_true rfl, Nat.le_of_ble_eq_true rfl⟩ _ rfl (Nat.le_of_ble_eq_true rfl) dX6_feeder_103 ?_
            cases hF
            exact hE _ _ dX6_feeder_106
          · have g_8 := sw_ne g_8 (n := 2) (by decide)
            refine j_case hF (fun g_10 hF => ?_) (fun g_10 hF => ?_)
            · refine j_tableIn h (85) 107 3 g_10 (by decide) (by decide) (by decide) (by decide) dX6_feeder_22 ?_
              refine j_aload_n h 0 rfl rfl dX6_feeder_107 ?_
              refine j_get h hP.2.2.2.2.2.1 inX6 rfl 0 (by decide) rfl q1_213 rfl dX6_feeder_108 ?_
              refine j_get h (hP.1 0 (by decide)).2.2.2.2.1.o inX5 rfl 5 (by decide) rfl q1_133 rfl dX6_feeder_111 ?_
              refine j_iload_n h 1 rfl rfl dX6_feeder_114 ?_
              obtain ⟨hb_11, hF⟩ := bnd_row hF
              refine ja_iald h (get := fun S => S.1 0) (put := fun S v => setV S 0 v) ((hP.1 0 (by decide)).1 19 (by decide)) hb_11 dX6_feeder_115 ?_
              cases hF
              exact hE _ _ dX6_feeder_116
            · have g_10 := sw_ne g_10 (n := 3) (by decide)
              refine j_tableOut h 117 (by omega) (by decide) dX6_feeder_22 ?_
              refine j_aload_n h 0 rfl rfl dX6_feeder_117 ?_
              refine j_get h hP.2.2.2.2.2.1 inX6 rfl 0 (by decide) rfl q1_213 rfl dX6_feeder_118 ?_
              refine j_get h (hP.1 0 (by decide)).2.2.2.2.1.o inX5 rfl 6 (by decide) rfl q1_135 rfl dX6_feeder_121 ?_
              refine j_iload_n h 1 rfl rfl dX6_feeder_124 ?_
              obtain ⟨hb_12, hF⟩ := bnd_row hF
              refine ja_iald h (get := fun S => S.1 0) (put := fun S v => setV S 0 v) ((hP.1 0 (by decide)).1 20 (by decide)) hb_12 dX6_feeder_125 ?_
              cases hF
              exact hE _ _ dX6_feeder_126
theorem c_X6_feeder (l : Launch) (D : va_G) (cI cZ cV : ClassId) {B : PS → va_W} {AD : Nat → Nat → Nat} (hP : IsPool cI cZ cV B AD) (S : PS) (p1 : Int32) (p2 : Int32) {r : Int32} (hF : f_X6_feeder S p1 p2 = some r) : CTi l D (jtys cI cZ cV) yX6_feeder cX6_feeder 3 (some .int) rmX6_feeder B [.ref (AD 12 7), .int p1, .int p2] S r S := by
  refine CTi.of [(0, .ref (AD 12 7)), (1, .int p1), (2, .int p2)] rfl (Nat.le_of_ble_eq_true rfl) (by decide) ⟨rfl, rfl⟩ (fun X e1 e2 e3 e4 e5 e6 e7 h hE => ?_)
  subst e1; subst e2; subst e3; subst e4; subst e5; subst e6
  exact k_X6_feeder h hP e7 hE hF
abbrev rmX6_account : Room := { frames := 1, cells := 0, slots := 0, locals := 22 }
theorem cw_X6_account : CWv RX6 yX6_account cX6_account 2 (some .int) 1 := ⟨q3_144, q3_145, q1_1, q3_146, ⟨rfl, by decide +kernel, by decide +kernel, by decide +kernel⟩⟩
set_option maxHeartbeats 4000000 in
set_option maxRecDepth 100000 in
theorem k_X6_account {X : JX PS} {AD : Nat → Nat → Nat} (h : OK X RX6 cX6_account rmX6_account) (hP : IsPool X.cI X.cZ X.cV X.B AD) (hnL : X.nL = 2) {res : Int32} {S : PS} {p1 : Int32} (hE : EXi X cX6_account res S) (hF : f_X6_account S p1 = some res) : J X 0 [(0, .ref (AD 12 7)), (1, .int p1)] [] S := by
  rw [f_X6_account] at hF
  refine j_iload_n h 1 rfl rfl dX6_account_0 ?_
  refine j_iconst h (v := 0) (by decide) dX6_account_1 ?_
  refine j_bipush h (v := 7) (by decide) dX6_account_2 ?_
  obtain ⟨r_1, hr_1, hF⟩ := bind_row hF
  refine j_callSz h (st := []) (S' := S) (c_X6_within X.l X.D X.cI X.cZ X.cV (B := X.B) S p1 (0 : Int32) (7 : Int32) hr_1) rfl rfl q1_236 cw_X6_within rfl ⟨rfl, rfl, Nat.le_of_ble_eq_true rfl, Nat.le_of_ble_eq_true rfl⟩ _ rfl (Nat.le_of_ble_eq_true rfl) dX6_account_4 (fun hz_r_1 => ?_)
  refine j_if_ne h 13 (by decide) dX6_account_7 hF (fun hF => ?_) (fun hF => ?_)
  · refine j_ldc h (v := -1000002) q1_239 dX6_account_10 ?_
    cases hF
    exact hE _ _ dX6_account_12
  · refine j_iload_n h 1 rfl rfl dX6_account_13 ?_
    refine j_iconst h (v := 5) (by decide) dX6_account_14 ?_
    refine j_icmp_ne h 31 (by decide) dX6_account_15 hF (fun hF => ?_) (fun hF => ?_)
    · refine j_aload_n h 0 rfl rfl dX6_account_18 ?_
      refine j_get h hP.2.2.2.2.2.1 inX6 rfl 0 (by decide) rfl q1_213 rfl dX6_account_19 ?_
      refine j_get h (hP.1 0 (by decide)).2.2.2.2.1.o inX5 rfl 2 (by decide) rfl q1_127 rfl dX6_account_22 ?_
      obtain ⟨r_2, hr_2, hF⟩ := bind_row hF
      refine j_callVi h (st := []) (S' := S) (c_X0_chargeOfAll X.l X.D X.cI X.cZ X.cV (hP.v S 0 (by decide)) (S.1 0) hr_2) (congrArg X.B (setV_id S 0)) (congrArg X.B (setV_id S 0)) q3_147 cw_X0_chargeOfAll (hP.1 0 (by decide)).2.2.2.1 rfl rfl rfl ⟨rfl, rfl, Nat.le_of_ble_eq_true rfl, Nat.le_of_ble_eq_true rfl⟩ _ rfl (Nat.le_of_ble_eq_true rfl) dX6_account_25 ?_
      refine j_goto h 40 (by decide) dX6_account_28 ?_
      cases hF
      exact hE _ _ dX6_account_40
    · refine j_aload_n h 0 rfl rfl dX6_account_31 ?_
      refine j_get h hP.2.2.2.2.2.1 inX6 rfl 0 (by decide) rfl q1_213 rfl dX6_account_32 ?_
      refine j_get h (hP.1 0 (by decide)).2.2.2.2.1.o inX5 rfl 4 (by decide) rfl q1_131 rfl dX6_account_35 ?_
      refine j_iload_n h 1 rfl rfl dX6_account_38 ?_
      obtain ⟨hb_3, hF⟩ := bnd_row hF
      refine ja_iald h (get := fun S => S.1 0) (put := fun S v => setV S 0 v) ((hP.1 0 (by decide)).1 18 (by decide)) hb_3 dX6_account_39 ?_
      cases hF
      exact hE _ _ dX6_account_40
theorem c_X6_account (l : Launch) (D : va_G) (cI cZ cV : ClassId) {B : PS → va_W} {AD : Nat → Nat → Nat} (hP : IsPool cI cZ cV B AD) (S : PS) (p1 : Int32) {r : Int32} (hF : f_X6_account S p1 = some r) : CTi l D (jtys cI cZ cV) yX6_account cX6_account 2 (some .int) rmX6_account B [.ref (AD 12 7), .int p1] S r S := by
  refine CTi.of [(0, .ref (AD 12 7)), (1, .int p1)] rfl (Nat.le_of_ble_eq_true rfl) (by decide) ⟨rfl, rfl⟩ (fun X e1 e2 e3 e4 e5 e6 e7 h hE => ?_)
  subst e1; subst e2; subst e3; subst e4; subst e5; subst e6
  exact k_X6_account h hP e7 hE hF
abbrev rmX6_supply : Room := { frames := 2, cells := 0, slots := 0, locals := 43 }
theorem cw_X6_supply : CWv RX6 yX6_supply cX6_supply 2 (some .int) 1 := ⟨q3_152, q3_153, q1_1, q3_154, ⟨rfl, by decide +kernel, by decide +kernel, by decide +kernel⟩⟩
set_option maxHeartbeats 4000000 in
set_option maxRecDepth 100000 in
theorem k_X6_supply {X : JX PS} {AD : Nat → Nat → Nat} (h : OK X RX6 cX6_supply rmX6_supply) (hP : IsPool X.cI X.cZ X.cV X.B AD) (hnL : X.nL = 2) {res : Int32} {S : PS} {p1 : Int32} (hE : EXi X cX6_supply res S) (hF : f_X6_supply S p1 = some res) : J X 0 [(0, .ref (AD 12 7)), (1, .int p1)] [] S := by
  rw [f_X6_supply] at hF
  refine j_iload_n h 1 rfl rfl dX6_supply_0 ?_
  refine j_if_ge h 9 (by decide) dX6_supply_1 hF (fun hF => ?_) (fun hF => ?_)
  · refine j_aload_n h 0 rfl rfl dX6_supply_9 ?_
    refine j_get h hP.2.2.2.2.2.1 inX6 rfl 0 (by decide) rfl q1_213 rfl dX6_supply_10 ?_
    refine j_iload_n h 1 rfl rfl dX6_supply_13 ?_
    obtain ⟨r_1, hr_1, hF⟩ := bind_row hF
    refine j_callVi h (st := []) (S' := S) (c_X5_supplyOf X.l X.D X.cI X.cZ X.cV (hP.v S 0 (by decide)) (S.1 0) p1 hr_1) (congrArg X.B (setV_id S 0)) (congrArg X.B (setV_id S 0)) q3_155 cw_X5_supplyOf (hP.1 0 (by decide)).2.2.2.2.1.o rfl rfl rfl ⟨rfl, rfl, Nat.le_of_ble_eq_true rfl, Nat.le_of_ble_eq_true rfl⟩ _ rfl (Nat.le_of_ble_eq_true rfl) dX6_supply_14 ?_
    cases hF
    exact hE _ _ dX6_supply_17
  · refine j_ldc h (v := -1000002) q1_239 dX6_supply_4 ?_
    refine j_goto h 17 (by decide) dX6_supply_6 ?_
    cases hF
    exact hE _ _ dX6_supply_17
theorem c_X6_supply (l : Launch) (D : va_G) (cI cZ cV : ClassId) {B : PS → va_W} {AD : Nat → Nat → Nat} (hP : IsPool cI cZ cV B AD) (S : PS) (p1 : Int32) {r : Int32} (hF : f_X6_supply S p1 = some r) : CTi l D (jtys cI cZ cV) yX6_supply cX6_supply 2 (some .int) rmX6_supply B [.ref (AD 12 7), .int p1] S r S := by
  refine CTi.of [(0, .ref (AD 12 7)), (1, .int p1)] rfl (Nat.le_of_ble_eq_true rfl) (by decide) ⟨rfl, rfl⟩ (fun X e1 e2 e3 e4 e5 e6 e7 h hE => ?_)
  subst e1; subst e2; subst e3; subst e4; subst e5; subst e6
  exact k_X6_supply h hP e7 hE hF
abbrev rmX6_count : Room := { frames := 1, cells := 0, slots := 0, locals := 22 }
theorem cw_X6_count : CWv RX6 yX6_count cX6_count 2 (some .int) 1 := ⟨q3_157, q3_158, q1_1, q3_159, ⟨rfl, by decide +kernel, by decide +kernel, by decide +kernel⟩⟩
set_option maxHeartbeats 4000000 in
set_option maxRecDepth 100000 in
theorem k_X6_count_116 {X : JX PS} {AD : Nat → Nat → Nat} (h : OK X RX6 cX6_count rmX6_count) (hP : IsPool X.cI X.cZ X.cV X.B AD) (hnL : X.nL = 2) {res : Int32} {S : PS} {s0 : Int32} (hE : EXi X cX6_count res S) (hF : f_X6_count_116 S s0 = some res) : J X 116 [(0, .ref (AD 12 7))] [.int s0] S := by
  rw [f_X6_count_116] at hF
  refine j_aload_n h 0 rfl rfl dX6_count_116 ?_
  refine j_get h hP.2.2.2.2.2.1 inX6 rfl 4 (by decide) rfl q1_217 rfl dX6_count_117 ?_
  refine j_iconst h (v := 1) (by decide) dX6_count_120 ?_
  obtain ⟨hb_9, hF⟩ := bnd_row hF
  refine j_zald h hP.2.2.1.a hb_9 dX6_count_121 ?_
  refine j_if_eq h 129 (by decide) dX6_count_122 hF (fun hF => ?_) (fun hF => ?_)
  · refine j_iconst h (v := 0) (by decide) dX6_count_129 ?_
    refine j_iadd h dX6_count_130 ?_
    cases hF
    exact hE _ _ dX6_count_131
  · refine j_iconst h (v := 2) (by decide) dX6_count_125 ?_
    refine j_goto h 130 (by decide) dX6_count_126 ?_
    refine j_iadd h dX6_count_130 ?_
    cases hF
    exact hE _ _ dX6_count_131
set_option maxHeartbeats 4000000 in
set_option maxRecDepth 100000 in
theorem k_X6_count {X : JX PS} {AD : Nat → Nat → Nat} (h : OK X RX6 cX6_count rmX6_count) (hP : IsPool X.cI X.cZ X.cV X.B AD) (hnL : X.nL = 2) {res : Int32} {S : PS} {p1 : Int32} (hE : EXi X cX6_count res S) (hF : f_X6_count S p1 = some res) : J X 0 [(0, .ref (AD 12 7)), (1, .int p1)] [] S := by
  rw [f_X6_count] at hF
  refine j_iload_n h 1 rfl rfl dX6_count_0 ?_
  refine j_case hF (fun g_1 hF => ?_) (fun g_1 hF => ?_)
  · refine j_tableIn h (47) 48 0 g_1 (by decide) (by decide) (by decide) (by decide) dX6_count_1 ?_
    refine j_aload_n h 0 rfl rfl dX6_count_48 ?_
    refine j_get h hP.2.2.2.2.2.1 inX6 rfl 0 (by decide) rfl q1_213 rfl dX6_count_49 ?_
    refine j_get h (hP.1 0 (by decide)).2.2.2.2.1.o inX5 rfl 0 (by decide) rfl q1_123 rfl dX6_count_52 ?_
    refine j_get h (hP.1 0 (by decide)).2.1.o inX2 rfl 0 (by decide) rfl q1_33 rfl dX6_count_55 ?_
    cases hF
    exact hE _ _ dX6_count_58
  · have g_1 := sw_ne g_1 (n := 0) (by decide)
    refine j_case hF (fun g_2 hF => ?_) (fun g_2 hF => ?_)
    · refine j_tableIn h (58) 59 1 g_2 (by decide) (by decide) (by decide) (by decide) dX6_count_1 ?_
      refine j_aload_n h 0 rfl rfl dX6_count_59 ?_
      refine j_get h hP.2.2.2.2.2.1 inX6 rfl 0 (by decide) rfl q1_213 rfl dX6_count_60 ?_
      refine j_get h (hP.1 0 (by decide)).2.2.2.2.1.o inX5 rfl 1 (by decide) rfl q1_125 rfl dX6_count_63 ?_
      refine j_get h (hP.1 0 (by decide)).2.2.1.o inX4 rfl 0 (by decide) rfl q1_85 rfl dX6_count_66 ?_
      cases hF
      exact hE _ _ dX6_count_69
    · have g_2 := sw_ne g_2 (n := 1) (by decide)
      refine j_case hF (fun g_3 hF => ?_) (fun g_3 hF => ?_)
      · refine j_tableIn h (69) 70 2 g_3 (by decide) (by decide) (by decide) (by decide) dX6_count_1 ?_
        refine j_aload_n h 0 rfl rfl dX6_count_70 ?_
        refine j_get h hP.2.2.2.2.2.1 inX6 rfl 0 (by decide) rfl q1_213 rfl dX6_count_71 ?_
        refine j_get h (hP.1 0 (by decide)).2.2.2.2.1.o inX5 rfl 9 (by decide) rfl q1_140 rfl dX6_count_74 ?_
        cases hF
        exact hE _ _ dX6_count_77
      · have g_3 := sw_ne g_3 (n := 2) (by decide)
        refine j_case hF (fun g_4 hF => ?_) (fun g_4 hF => ?_)
        · refine j_tableIn h (77) 78 3 g_4 (by decide) (by decide) (by decide) (by decide) dX6_count_1 ?_
          refine j_aload_n h 0 rfl rfl dX6_count_78 ?_
          refine j_get h hP.2.2.2.2.2.1 inX6 rfl 0 (by decide) rfl q1_213 rfl dX6_count_79 ?_
          refine j_get h (hP.1 0 (by decide)).2.2.2.2.1.o inX5 rfl 8 (by decide) rfl q1_138 rfl dX6_count_82 ?_
          cases hF
          exact hE _ _ dX6_count_85
        · have g_4 := sw_ne g_4 (n := 3) (by decide)
          refine j_case hF (fun g_5 hF => ?_) (fun g_5 hF => ?_)
          · refine j_tableIn h (85) 86 4 g_5 (by decide) (by decide) (by decide) (by decide) dX6_count_1 ?_
            refine j_aload_n h 0 rfl rfl dX6_count_86 ?_
            refine j_get h hP.2.2.2.2.2.1 inX6 rfl 0 (by decide) rfl q1_213 rfl dX6_count_87 ?_
            refine j_get h (hP.1 0 (by decide)).2.2.2.2.1.o inX5 rfl 10 (by decide) rfl q1_142 rfl dX6_count_90 ?_
            cases hF
            exact hE _ _ dX6_count_93
          · have g_5 := sw_ne g_5 (n := 4) (by decide)
            refine j_case hF (fun g_6 hF => ?_) (fun g_6 hF => ?_)
            · refine j_tableIn h (93) 94 5 g_6 (by decide) (by decide) (by decide) (by decide) dX6_count_1 ?_
              refine j_aload_n h 0 rfl rfl dX6_count_94 ?_
              refine j_get h hP.2.2.2.2.2.1 inX6 rfl 2 (by decide) rfl q1_215 rfl dX6_count_95 ?_
              refine j_get h hP.2.2.2.1.o inX1 rfl 0 (by decide) rfl q1_176 rfl dX6_count_98 ?_
              cases hF
              exact hE _ _ dX6_count_101
            · have g_6 := sw_ne g_6 (n := 5) (by decide)
              refine j_case hF (fun g_7 hF => ?_) (fun g_7 hF => ?_)
              · refine j_tableIn h (101) 102 6 g_7 (by decide) (by decide) (by decide) (by decide) dX6_count_1 ?_
                refine j_aload_n h 0 rfl rfl dX6_count_102 ?_
                refine j_get h hP.2.2.2.2.2.1 inX6 rfl 4 (by decide) rfl q1_217 rfl dX6_count_103 ?_
                refine j_iconst h (v := 0) (by decide) dX6_count_106 ?_
                obtain ⟨hb_8, hF⟩ := bnd_row hF
                refine j_zald h hP.2.2.1.a hb_8 dX6_count_107 ?_
                refine j_if_eq h 115 (by decide) dX6_count_108 hF (fun hF => ?_) (fun hF => ?_)
                · refine j_iconst h (v := 0) (by decide) dX6_count_115 ?_
                  exact j_sub [0] rfl (k_X6_count_116 h hP hnL hE hF)
                · refine j_iconst h (v := 1) (by decide) dX6_count_111 ?_
                  refine j_goto h 116 (by decide) dX6_count_112 ?_
                  exact j_sub [0] rfl (k_X6_count_116 h hP hnL hE hF)
              · have g_7 := sw_ne g_7 (n := 6) (by decide)
                refine j_case hF (fun g_10 hF => ?_) (fun g_10 hF => ?_)
                · refine j_tableIn h (131) 132 7 g_10 (by decide) (by decide) (by decide) (by decide) dX6_count_1 ?_
                  refine j_aload_n h 0 rfl rfl dX6_count_132 ?_
                  refine j_get h hP.2.2.2.2.2.1 inX6 rfl 0 (by decide) rfl q1_213 rfl dX6_count_133 ?_
                  refine j_get h (hP.1 0 (by decide)).2.2.2.2.1.o inX5 rfl 0 (by decide) rfl q1_123 rfl dX6_count_136 ?_
                  obtain ⟨r_11, hr_11, hF⟩ := bind_row hF
                  refine j_callVi h (st := []) (S' := S) (c_X2_overdrawn X.l X.D X.cI X.cZ X.cV (hP.v S 0 (by decide)) (S.1 0) hr_11) (congrArg X.B (setV_id S 0)) (congrArg X.B (setV_id S 0)) q3_160 cw_X2_overdrawn (hP.1 0 (by decide)).2.1.o rfl rfl rfl ⟨rfl, rfl, Nat.le_of_ble_eq_true rfl, Nat.le_of_ble_eq_true rfl⟩ _ rfl (Nat.le_of_ble_eq_true rfl) dX6_count_139 ?_
                  cases hF
                  exact hE _ _ dX6_count_142
                · have g_10 := sw_ne g_10 (n := 7) (by decide)
                  refine j_tableOut h 143 (by omega) (by decide) dX6_count_1 ?_
                  refine j_ldc h (v := -1000002) q1_239 dX6_count_143 ?_
                  cases hF
                  exact hE _ _ dX6_count_145
theorem c_X6_count (l : Launch) (D : va_G) (cI cZ cV : ClassId) {B : PS → va_W} {AD : Nat → Nat → Nat} (hP : IsPool cI cZ cV B AD) (S : PS) (p1 : Int32) {r : Int32} (hF : f_X6_count S p1 = some r) : CTi l D (jtys cI cZ cV) yX6_count cX6_count 2 (some .int) rmX6_count B [.ref (AD 12 7), .int p1] S r S := by
  refine CTi.of [(0, .ref (AD 12 7)), (1, .int p1)] rfl (Nat.le_of_ble_eq_true rfl) (by decide) ⟨rfl, rfl⟩ (fun X e1 e2 e3 e4 e5 e6 e7 h hE => ?_)
  subst e1; subst e2; subst e3; subst e4; subst e5; subst e6
  exact k_X6_count h hP e7 hE hF
abbrev rmX6_setting : Room := { frames := 2, cells := 0, slots := 0, locals := 42 }
theorem cw_X6_setting : CWv RX6 yX6_setting cX6_setting 2 (some .int) 1 := ⟨q3_165, q3_166, q1_1, q3_167, ⟨rfl, by decide +kernel, by decide +kernel, by decide +kernel⟩⟩
set_option maxHeartbeats 4000000 in
set_option maxRecDepth 100000 in
theorem k_X6_setting {X : JX PS} {AD : Nat → Nat → Nat} (h : OK X RX6 cX6_setting rmX6_setting) (hP : IsPool X.cI X.cZ X.cV X.B AD) (hnL : X.nL = 2) {res : Int32} {S : PS} {p1 : Int32} (hE : EXi X cX6_setting res S) (hF : f_X6_setting S p1 = some res) : J X 0 [(0, .ref (AD 12 7)), (1, .int p1)] [] S := by
  rw [f_X6_setting] at hF
  refine j_iload_n h 1 rfl rfl dX6_setting_0 ?_
  obtain ⟨r_1, hr_1, hF⟩ := bind_row hF
  refine j_callSz h (st := []) (S' := S) (c_X6_isSetting X.l X.D X.cI X.cZ X.cV (B := X.B) S p1 hr_1) rfl rfl q2_152 cw_X6_isSetting rfl ⟨rfl, rfl, Nat.le_of_ble_eq_true rfl, Nat.le_of_ble_eq_true rfl⟩ _ rfl (Nat.le_of_ble_eq_true rfl) dX6_setting_1 (fun hz_r_1 => ?_)
  refine j_if_eq h 19 (by decide) dX6_setting_4 hF (fun hF => ?_) (fun hF => ?_)
  · refine j_ldc h (v := -1000002) q1_239 dX6_setting_19 ?_
    cases hF
    exact hE _ _ dX6_setting_21
  · refine j_aload_n h 0 rfl rfl dX6_setting_7 ?_
    refine j_get h hP.2.2.2.2.2.1 inX6 rfl 0 (by decide) rfl q1_213 rfl dX6_setting_8 ?_
    refine j_get h (hP.1 0 (by decide)).2.2.2.2.1.o inX5 rfl 3 (by decide) rfl q1_129 rfl dX6_setting_11 ?_
    refine j_iload_n h 1 rfl rfl dX6_setting_14 ?_
    obtain ⟨hb_2, hF⟩ := bnd_row hF
    refine ja_iald h (get := fun S => S.1 0) (put := fun S v => setV S 0 v) ((hP.1 0 (by decide)).1 17 (by decide)) hb_2 dX6_setting_15 ?_
    refine j_goto h 21 (by decide) dX6_setting_16 ?_
    cases hF
    exact hE _ _ dX6_setting_21
theorem c_X6_setting (l : Launch) (D : va_G) (cI cZ cV : ClassId) {B : PS → va_W} {AD : Nat → Nat → Nat} (hP : IsPool cI cZ cV B AD) (S : PS) (p1 : Int32) {r : Int32} (hF : f_X6_setting S p1 = some r) : CTi l D (jtys cI cZ cV) yX6_setting cX6_setting 2 (some .int) rmX6_setting B [.ref (AD 12 7), .int p1] S r S := by
  refine CTi.of [(0, .ref (AD 12 7)), (1, .int p1)] rfl (Nat.le_of_ble_eq_true rfl) (by decide) ⟨rfl, rfl⟩ (fun X e1 e2 e3 e4 e5 e6 e7 h hE => ?_)
  subst e1; subst e2; subst e3; subst e4; subst e5; subst e6
  exact k_X6_setting h hP e7 hE hF
abbrev rmX6_seenAhead : Room := { frames := 1, cells := 0, slots := 0, locals := 22 }
theorem cw_X6_seenAhead : CWv RX6 yX6_seenAhead cX6_seenAhead 2 (some .int) 1 := ⟨q3_174, qs20, q1_1, q3_175, ⟨rfl, by decide +kernel, by decide +kernel, by decide +kernel⟩⟩
set_option maxHeartbeats 4000000 in
set_option maxRecDepth 100000 in
theorem k_X6_seenAhead {X : JX PS} {AD : Nat → Nat → Nat} (h : OK X RX6 cX6_seenAhead rmX6_seenAhead) (hP : IsPool X.cI X.cZ X.cV X.B AD) (hnL : X.nL = 2) {res : Int32} {S : PS} {p1 : Int32} (hE : EXi X cX6_seenAhead res S) (hF : f_X6_seenAhead S p1 = some res) : J X 0 [(0, .ref (AD 12 7)), (1, .int p1)] [] S := by
  rw [f_X6_seenAhead] at hF
  refine j_iload_n h 1 rfl rfl dX6_seenAhead_0 ?_
  refine j_case hF (fun g_1 hF => ?_) (fun g_1 hF => ?_)
  · refine j_tableIn h (31) 32 0 g_1 (by decide) (by decide) (by decide) (by decide) dX6_seenAhead_1 ?_
    refine j_aload_n h 0 rfl rfl dX6_seenAhead_32 ?_
    refine j_get h hP.2.2.2.2.2.1 inX6 rfl 1 (by decide) rfl q1_214 rfl dX6_seenAhead_33 ?_
    refine j_get h (hP.1 1 (by decide)).2.2.2.2.1.o inX5 rfl 4 (by decide) rfl q1_131 rfl dX6_seenAhead_36 ?_
    refine j_iconst h (v := 1) (by decide) dX6_seenAhead_39 ?_
    obtain ⟨hb_2, hF⟩ := bnd_row hF
    refine ja_iald h (get := fun S => S.1 1) (put := fun S v => setV S 1 v) ((hP.1 1 (by decide)).1 18 (by decide)) hb_2 dX6_seenAhead_40 ?_
    refine j_aload_n h 0 rfl rfl dX6_seenAhead_41 ?_
    refine j_get h hP.2.2.2.2.2.1 inX6 rfl 0 (by decide) rfl q1_213 rfl dX6_seenAhead_42 ?_
    refine j_get h (hP.1 0 (by decide)).2.2.2.2.1.o inX5 rfl 4 (by decide) rfl q1_131 rfl dX6_seenAhead_45 ?_
    refine j_iconst h (v := 1) (by decide) dX6_seenAhead_48 ?_
    obtain ⟨hb_3, hF⟩ := bnd_row hF
    refine ja_iald h (get := fun S => S.1 0) (put := fun S v => setV S 0 v) ((hP.1 0 (by decide)).1 18 (by decide)) hb_3 dX6_seenAhead_49 ?_
    refine j_isub h dX6_seenAhead_50 ?_
    cases hF
    exact hE _ _ dX6_seenAhead_51
  · have g_1 := sw_ne g_1 (n := 0) (by decide)
    refine j_case hF (fun g_4 hF => ?_) (fun g_4 hF => ?_)
    · refine j_tableIn h (51) 52 1 g_4 (by decide) (by decide) (by decide) (by decide) dX6_seenAhead_1 ?_
      refine j_aload_n h 0 rfl rfl dX6_seenAhead_52 ?_
      refine j_get h hP.2.2.2.2.2.1 inX6 rfl 1 (by decide) rfl q1_214 rfl dX6_seenAhead_53 ?_
      obtain ⟨r_5, hr_5, hF⟩ := bind_row hF
      refine j_callVi h (st := []) (S' := S) (c_X5_timesShed X.l X.D X.cI X.cZ X.cV (hP.v S 1 (by decide)) (S.1 1) hr_5) (congrArg X.B (setV_id S 1)) (congrArg X.B (setV_id S 1)) q3_176 cw_X5_timesShed (hP.1 1 (by decide)).2.2.2.2.1.o rfl rfl rfl ⟨rfl, rfl, Nat.le_of_ble_eq_true rfl, Nat.le_of_ble_eq_true rfl⟩ _ rfl (Nat.le_of_ble_eq_true rfl) dX6_seenAhead_56 ?_
      refine j_aload_n h 0 rfl rfl dX6_seenAhead_59 ?_
      refine j_get h hP.2.2.2.2.2.1 inX6 rfl 0 (by decide) rfl q1_213 rfl dX6_seenAhead_60 ?_
      obtain ⟨r_6, hr_6, hF⟩ := bind_row hF
      refine j_callVi h (st := [.int r_5]) (S' := S) (c_X5_timesShed X.l X.D X.cI X.cZ X.cV (hP.v S 0 (by decide)) (S.1 0) hr_6) (congrArg X.B (setV_id S 0)) (congrArg X.B (setV_id S 0)) q3_176 cw_X5_timesShed (hP.1 0 (by decide)).2.2.2.2.1.o rfl rfl rfl ⟨rfl, rfl, Nat.le_of_ble_eq_true rfl, Nat.le_of_ble_eq_true rfl⟩ _ rfl (Nat.le_of_ble_eq_true rfl) dX6_seenAhead_63 ?_
      refine j_isub h dX6_seenAhead_66 ?_
      cases hF
      exact hE _ _ dX6_seenAhead_67
    · have g_4 := sw_ne g_4 (n := 1) (by decide)
      refine j_case hF (fun g_7 hF => ?_) (fun g_7 hF => ?_)
      · refine j_tableIn h (67) 68 2 g_7 (by decide) (by decide) (by decide) (by decide) dX6_seenAhead_1 ?_
        refine j_aload_n h 0 rfl rfl dX6_seenAhead_68 ?_
        refine j_get h hP.2.2.2.2.2.1 inX6 rfl 1 (by decide) rfl q1_214 rfl dX6_seenAhead_69 ?_
        refine j_get h (hP.1 1 (by decide)).2.2.2.2.1.o inX5 rfl 4 (by decide) rfl q1_131 rfl dX6_seenAhead_72 ?_
        refine j_iconst h (v := 3) (by decide) dX6_seenAhead_75 ?_
        obtain ⟨hb_8, hF⟩ := bnd_row hF
        refine ja_iald h (get := fun S => S.1 1) (put := fun S v => setV S 1 v) ((hP.1 1 (by decide)).1 18 (by decide)) hb_8 dX6_seenAhead_76 ?_
        refine j_aload_n h 0 rfl rfl dX6_seenAhead_77 ?_
        refine j_get h hP.2.2.2.2.2.1 inX6 rfl 0 (by decide) rfl q1_213 rfl dX6_seenAhead_78 ?_
        refine j_get h (hP.1 0 (by decide)).2.2.2.2.1.o inX5 rfl 4 (by decide) rfl q1_131 rfl dX6_seenAhead_81 ?_
        refine j_iconst h (v := 3) (by decide) dX6_seenAhead_84 ?_
        obtain ⟨hb_9, hF⟩ := bnd_row hF
        refine ja_iald h (get := fun S => S.1 0) (put := fun S v => setV S 0 v) ((hP.1 0 (by decide)).1 18 (by decide)) hb_9 dX6_seenAhead_85 ?_
        refine j_isub h dX6_seenAhead_86 ?_
        cases hF
        exact hE _ _ dX6_seenAhead_87
      · have g_7 := sw_ne g_7 (n := 2) (by decide)
        refine j_case hF (fun g_10 hF => ?_) (fun g_10 hF => ?_)
        · refine j_tableIn h (87) 88 3 g_10 (by decide) (by decide) (by decide) (by decide) dX6_seenAhead_1 ?_
          refine j_aload_n h 0 rfl rfl dX6_seenAhead_88 ?_
          refine j_get h hP.2.2.2.2.2.1 inX6 rfl 1 (by decide) rfl q1_214 rfl dX6_seenAhead_89 ?_
          refine j_get h (hP.1 1 (by decide)).2.2.2.2.1.o inX5 rfl 2 (by decide) rfl q1_127 rfl dX6_seenAhead_92 ?_
          obtain ⟨r_11, hr_11, hF⟩ := bind_row hF
          refine j_callVi h (st := []) (S' := S) (c_X0_chargeOfAll X.l X.D X.cI X.cZ X.cV (hP.v S 1 (by decide)) (S.1 1) hr_11) (congrArg X.B (setV_id S 1)) (congrArg X.B (setV_id S 1)) q3_147 cw_X0_chargeOfAll (hP.1 1 (by decide)).2.2.2.1 rfl rfl rfl ⟨rfl, rfl, Nat.le_of_ble_eq_true rfl, Nat.le_of_ble_eq_true rfl⟩ _ rfl (Nat.le_of_ble_eq_true rfl) dX6_seenAhead_95 ?_
          cases hF
          exact hE _ _ dX6_seenAhead_98
        · have g_10 := sw_ne g_10 (n := 3) (by decide)
          refine j_tableOut h 99 (by omega) (by decide) dX6_seenAhead_1 ?_
          refine j_aload_n h 0 rfl rfl dX6_seenAhead_99 ?_
          refine j_get h hP.2.2.2.2.2.1 inX6 rfl 1 (by decide) rfl q1_214 rfl dX6_seenAhead_100 ?_
          refine j_get h (hP.1 1 (by decide)).2.2.2.2.1.o inX5 rfl 0 (by decide) rfl q1_123 rfl dX6_seenAhead_103 ?_
          obtain ⟨r_12, hr_12, hF⟩ := bind_row hF
          refine j_callVi h (st := []) (S' := S) (c_X2_unmet X.l X.D X.cI X.cZ X.cV (hP.v S 1 (by decide)) (S.1 1) hr_12) (congrArg X.B (setV_id S 1)) (congrArg X.B (setV_id S 1)) q3_180 cw_X2_unmet (hP.1 1 (by decide)).2.1.o rfl rfl rfl ⟨rfl, rfl, Nat.le_of_ble_eq_true rfl, Nat.le_of_ble_eq_true rfl⟩ _ rfl (Nat.le_of_ble_eq_true rfl) dX6_seenAhead_106 ?_
          cases hF
          exact hE _ _ dX6_seenAhead_109
theorem c_X6_seenAhead (l : Launch) (D : va_G) (cI cZ cV : ClassId) {B : PS → va_W} {AD : Nat → Nat → Nat} (hP : IsPool cI cZ cV B AD) (S : PS) (p1 : Int32) {r : Int32} (hF : f_X6_seenAhead S p1 = some r) : CTi l D (jtys cI cZ cV) yX6_seenAhead cX6_seenAhead 2 (some .int) rmX6_seenAhead B [.ref (AD 12 7), .int p1] S r S := by
  refine CTi.of [(0, .ref (AD 12 7)), (1, .int p1)] rfl (Nat.le_of_ble_eq_true rfl) (by decide) ⟨rfl, rfl⟩ (fun X e1 e2 e3 e4 e5 e6 e7 h hE => ?_)
  subst e1; subst e2; subst e3; subst e4; subst e5; subst e6
  exact k_X6_seenAhead h hP e7 hE hF
abbrev rmX6_ifRun : Room := { frames := 5, cells := 0, slots := 0, locals := 115 }
theorem cw_X6_ifRun : CWv RX6 yX6_ifRun cX6_ifRun 3 (some .int) 2 := ⟨q3_169, q3_170, q1_1, q3_171, ⟨rfl, by decide +kernel, by decide +kernel, by decide +kernel⟩⟩
set_option maxHeartbeats 4000000 in
set_option maxRecDepth 100000 in
theorem k_X6_ifRun {X : JX PS} {AD : Nat → Nat → Nat} (h : OK X RX6 cX6_ifRun rmX6_ifRun) (hP : IsPool X.cI X.cZ X.cV X.B AD) (hnL : X.nL = 3) {res : Int32 × PS} {S : PS} {p1 : Int32} {p2 : Int32} (hE : EXi X cX6_ifRun res.1 res.2) (hF : f_X6_ifRun S p1 p2 = some res) : J X 0 [(0, .ref (AD 12 7)), (1, .int p1), (2, .int p2)] [] S := by
  rw [f_X6_ifRun] at hF
  refine j_iload_n h 1 rfl rfl dX6_ifRun_0 ?_
  refine j_iconst h (v := 1) (by decide) dX6_ifRun_1 ?_
  refine j_bipush h (v := 100) (by decide) dX6_ifRun_2 ?_
  obtain ⟨r_1, hr_1, hF⟩ := bind_row hF
  refine j_callSz h (st := []) (S' := S) (c_X6_within X.l X.D X.cI X.cZ X.cV (B := X.B) S p1 (1 : Int32) (100 : Int32) hr_1) rfl rfl q1_236 cw_X6_within rfl ⟨rfl, rfl, Nat.le_of_ble_eq_true rfl, Nat.le_of_ble_eq_true rfl⟩ _ rfl (Nat.le_of_ble_eq_true rfl) dX6_ifRun_4 (fun hz_r_1 => ?_)
  refine j_if_eq h 19 (by decide) dX6_ifRun_7 hF (fun hF => ?_) (fun hF => ?_)
  · refine j_ldc h (v := -1000002) q1_239 dX6_ifRun_19 ?_
    cases hF
    exact hE _ _ dX6_ifRun_21
  · refine j_iload_n h 2 rfl rfl dX6_ifRun_10 ?_
    refine j_iconst h (v := 0) (by decide) dX6_ifRun_11 ?_
    refine j_iconst h (v := 4) (by decide) dX6_ifRun_12 ?_
    obtain ⟨r_2, hr_2, hF⟩ := bind_row hF
    refine j_callSz h (st := []) (S' := S) (c_X6_within X.l X.D X.cI X.cZ X.cV (B := X.B) S p2 (0 : Int32) (4 : Int32) hr_2) rfl rfl q1_236 cw_X6_within rfl ⟨rfl, rfl, Nat.le_of_ble_eq_true rfl, Nat.le_of_ble_eq_true rfl⟩ _ rfl (Nat.le_of_ble_eq_true rfl) dX6_ifRun_13 (fun hz_r_2 => ?_)
    refine j_if_ne h 22 (by decide) dX6_ifRun_16 hF (fun hF => ?_) (fun hF => ?_)
    · refine j_ldc h (v := -1000002) q1_239 dX6_ifRun_19 ?_
      cases hF
      exact hE _ _ dX6_ifRun_21
    · refine j_aload_n h 0 rfl rfl dX6_ifRun_22 ?_
      refine j_get h hP.2.2.2.2.2.1 inX6 rfl 1 (by decide) rfl q1_214 rfl dX6_ifRun_23 ?_
      refine j_aload_n h 0 rfl rfl dX6_ifRun_26 ?_
      refine j_get h hP.2.2.2.2.2.1 inX6 rfl 0 (by decide) rfl q1_213 rfl dX6_ifRun_27 ?_
      obtain ⟨r_3, hr_3, hF⟩ := bind_row hF
      refine j_callVv h (st := []) (S' := r_3) (c_X5_copy X.l X.D X.cI X.cZ X.cV hP (by decide) (by decide) S hr_3) rfl rfl q3_103 cw_X5_copy (hP.1 1 (by decide)).2.2.2.2.1.o rfl rfl rfl ⟨rfl, rfl, Nat.le_of_ble_eq_true rfl, Nat.le_of_ble_eq_true rfl⟩ _ rfl (Nat.le_of_ble_eq_true rfl) dX6_ifRun_30 ?_
      refine j_aload_n h 0 rfl rfl dX6_ifRun_33 ?_
      refine j_get h hP.2.2.2.2.2.1 inX6 rfl 1 (by decide) rfl q1_214 rfl dX6_ifRun_34 ?_
      refine j_iload_n h 1 rfl rfl dX6_ifRun_37 ?_
      obtain ⟨r_4, hr_4, hF⟩ := bind_row hF
      refine j_callVv h (st := []) (S' := (setV r_3 1 r_4)) (c_X5_passHours X.l X.D X.cI X.cZ X.cV (hP.v r_3 1 (by decide)) (r_3.1 1) p1 hr_4) (congrArg X.B (setV_id r_3 1)) rfl q2_192 cw_X5_passHours (hP.1 1 (by decide)).2.2.2.2.1.o rfl rfl rfl ⟨rfl, rfl, Nat.le_of_ble_eq_true rfl, Nat.le_of_ble_eq_true rfl⟩ _ rfl (Nat.le_of_ble_eq_true rfl) dX6_ifRun_38 ?_
      refine j_letS hF (fun S_5 hF => ?_)
      refine j_aload_n h 0 rfl rfl dX6_ifRun_41 ?_
      refine j_iload_n h 2 rfl rfl dX6_ifRun_42 ?_
      obtain ⟨r_6, hr_6, hF⟩ := bind_row hF
      refine j_callVi h (st := []) (S' := S_5) (c_X6_seenAhead X.l X.D X.cI X.cZ X.cV hP S_5 p2 hr_6) rfl rfl q3_172 cw_X6_seenAhead hP.2.2.2.2.2.1 rfl rfl rfl ⟨rfl, rfl, Nat.le_of_ble_eq_true rfl, Nat.le_of_ble_eq_true rfl⟩ _ rfl (Nat.le_of_ble_eq_true rfl) dX6_ifRun_43 ?_
      cases hF
      exact hE _ _ dX6_ifRun_46
theorem c_X6_ifRun (l : Launch) (D : va_G) (cI cZ cV : ClassId) {B : PS → va_W} {AD : Nat → Nat → Nat} (hP : IsPool cI cZ cV B AD) (S : PS) (p1 : Int32) (p2 : Int32) {r : Int32 × PS} (hF : f_X6_ifRun S p1 p2 = some r) : CTi l D (jtys cI cZ cV) yX6_ifRun cX6_ifRun 3 (some .int) rmX6_ifRun B [.ref (AD 12 7), .int p1, .int p2] S r.1 r.2 := by
  refine CTi.of [(0, .ref (AD 12 7)), (1, .int p1), (2, .int p2)] rfl (Nat.le_of_ble_eq_true rfl) (by decide) ⟨rfl, rfl⟩ (fun X e1 e2 e3 e4 e5 e6 e7 h hE => ?_)
  subst e1; subst e2; subst e3; subst e4; subst e5; subst e6
  exact k_X6_ifRun h hP e7 hE hF
abbrev rmX6_darkIn : Room := { frames := 5, cells := 0, slots := 0, locals := 116 }
theorem cw_X6_darkIn : CWv RX6 yX6_darkIn cX6_darkIn 3 (some .int) 1 := ⟨q3_185, q3_186, q1_1, q3_187, ⟨rfl, by decide +kernel, by decide +kernel, by decide +kernel⟩⟩
set_option maxHeartbeats 4000000 in
set_option maxRecDepth 100000 in
theorem k_X6_darkIn {X : JX PS} {AD : Nat → Nat → Nat} (h : OK X RX6 cX6_darkIn rmX6_darkIn) (hP : IsPool X.cI X.cZ X.cV X.B AD) (hnL : X.nL = 3) {res : Int32 × PS} {S : PS} {p1 : Int32} (hE : EXi X cX6_darkIn res.1 res.2) (hF : f_X6_darkIn S p1 = some res) : J X 0 [(0, .ref (AD 12 7)), (1, .int p1)] [] S := by
  rw [f_X6_darkIn] at hF
  refine j_aload_n h 0 rfl rfl dX6_darkIn_0 ?_
  refine j_iload_n h 1 rfl rfl dX6_darkIn_1 ?_
  obtain ⟨r_1, hr_1, hF⟩ := bind_row hF
  refine j_callVz h (st := []) (S' := S) (c_X6_isHouse X.l X.D X.cI X.cZ X.cV hP S p1 hr_1) rfl rfl q2_43 cw_X6_isHouse hP.2.2.2.2.2.1 rfl rfl rfl ⟨rfl, rfl, Nat.le_of_ble_eq_true rfl, Nat.le_of_ble_eq_true rfl⟩ _ rfl (Nat.le_of_ble_eq_true rfl) dX6_darkIn_2 (fun hz_r_1 => ?_)
  refine j_if_ne h 11 (by decide) dX6_darkIn_5 hF (fun hF => ?_) (fun hF => ?_)
  · refine j_ldc h (v := -1000002) q1_239 dX6_darkIn_8 ?_
    cases hF
    exact hE _ _ dX6_darkIn_10
  · refine j_aload_n h 0 rfl rfl dX6_darkIn_11 ?_
    refine j_get h hP.2.2.2.2.2.1 inX6 rfl 1 (by decide) rfl q1_214 rfl dX6_darkIn_12 ?_
    refine j_aload_n h 0 rfl rfl dX6_darkIn_15 ?_
    refine j_get h hP.2.2.2.2.2.1 inX6 rfl 0 (by decide) rfl q1_213 rfl dX6_darkIn_16 ?_
    obtain ⟨r_2, hr_2, hF⟩ := bind_row hF
    refine j_callVv h (st := []) (S' := r_2) (c_X5_copy X.l X.D X.cI X.cZ X.cV hP (by decide) (by decide) S hr_2) rfl rfl q3_103 cw_X5_copy (hP.1 1 (by decide)).2.2.2.2.1.o rfl rfl rfl ⟨rfl, rfl, Nat.le_of_ble_eq_true rfl, Nat.le_of_ble_eq_true rfl⟩ _ rfl (Nat.le_of_ble_eq_true rfl) dX6_darkIn_19 ?_
    refine j_aload_n h 0 rfl rfl dX6_darkIn_22 ?_
    refine j_get h hP.2.2.2.2.2.1 inX6 rfl 1 (by decide) rfl q1_214 rfl dX6_darkIn_23 ?_
    refine j_iload_n h 1 rfl rfl dX6_darkIn_26 ?_
    refine j_sipush h (v := 200) (by decide) dX6_darkIn_27 ?_
    obtain ⟨r_3, hr_3, hF⟩ := bind_row hF
    refine j_callVi h (st := []) (S' := (setV r_2 1 r_3.2)) (c_X5_hoursMet X.l X.D X.cI X.cZ X.cV (hP.v r_2 1 (by decide)) (r_2.1 1) p1 (200 : Int32) hr_3) (congrArg X.B (setV_id r_2 1)) rfl q3_188 cw_X5_hoursMet (hP.1 1 (by decide)).2.2.2.2.1.o rfl rfl rfl ⟨rfl, rfl, Nat.le_of_ble_eq_true rfl, Nat.le_of_ble_eq_true rfl⟩ _ rfl (Nat.le_of_ble_eq_true rfl) dX6_darkIn_30 ?_
    refine j_letS hF (fun S_4 hF => ?_)
    refine j_istore_n h hnL [(2, .int r_3.1), (0, .ref (AD 12 7)), (1, .int p1)] rfl (by decide) rfl dX6_darkIn_33 ?_
    refine j_iload_n h 0 rfl rfl dX6_darkIn_34 ?_
    refine j_sipush h (v := 200) (by decide) dX6_darkIn_35 ?_
    refine j_icmp_ge h 45 (by decide) dX6_darkIn_38 hF (fun hF => ?_) (fun hF => ?_)
    · refine j_ldc h (v := -1000001) q3_86 dX6_darkIn_45 ?_
      cases hF
      exact hE _ _ dX6_darkIn_47
    · refine j_iload_n h 0 rfl rfl dX6_darkIn_41 ?_
      refine j_goto h 47 (by decide) dX6_darkIn_42 ?_
      cases hF
      exact hE _ _ dX6_darkIn_47
theorem c_X6_darkIn (l : Launch) (D : va_G) (cI cZ cV : ClassId) {B : PS → va_W} {AD : Nat → Nat → Nat} (hP : IsPool cI cZ cV B AD) (S : PS) (p1 : Int32) {r : Int32 × PS} (hF : f_X6_darkIn S p1 = some r) : CTi l D (jtys cI cZ cV) yX6_darkIn cX6_darkIn 3 (some .int) rmX6_darkIn B [.ref (AD 12 7), .int p1] S r.1 r.2 := by
  refine CTi.of [(0, .ref (AD 12 7)), (1, .int p1)] rfl (Nat.le_of_ble_eq_true rfl) (by decide) ⟨rfl, rfl⟩ (fun X e1 e2 e3 e4 e5 e6 e7 h hE => ?_)
  subst e1; subst e2; subst e3; subst e4; subst e5; subst e6
  exact k_X6_darkIn h hP e7 hE hF
abbrev rmX6_wouldServe : Room := { frames := 5, cells := 0, slots := 0, locals := 116 }
theorem cw_X6_wouldServe : CWv RX6 yX6_wouldServe cX6_wouldServe 4 (some .boolean) 3 := ⟨q3_203, qs21, q1_1, q3_204, ⟨rfl, by decide +kernel, by decide +kernel, by decide +kernel⟩⟩
set_option maxHeartbeats 4000000 in
set_option maxRecDepth 100000 in
theorem k_X6_wouldServe {X : JX PS} {AD : Nat → Nat → Nat} (h : OK X RX6 cX6_wouldServe rmX6_wouldServe) (hP : IsPool X.cI X.cZ X.cV X.B AD) (hnL : X.nL = 4) {res : Int32 × PS} {S : PS} {p1 : Int32} {p2 : Int32} {p3 : Int32} (hE : EXz X cX6_wouldServe res.1 res.2) (hF : f_X6_wouldServe S p1 p2 p3 = some res) : J X 0 [(0, .ref (AD 12 7)), (1, .int p1), (2, .int p2), (3, .int p3)] [] S := by
  rw [f_X6_wouldServe] at hF
  refine j_aload_n h 0 rfl rfl dX6_wouldServe_0 ?_
  refine j_get h hP.2.2.2.2.2.1 inX6 rfl 1 (by decide) rfl q1_214 rfl dX6_wouldServe_1 ?_
  refine j_aload_n h 0 rfl rfl dX6_wouldServe_4 ?_
  refine j_get h hP.2.2.2.2.2.1 inX6 rfl 0 (by decide) rfl q1_213 rfl dX6_wouldServe_5 ?_
  obtain ⟨r_1, hr_1, hF⟩ := bind_row hF
  refine j_callVv h (st := []) (S' := r_1) (c_X5_copy X.l X.D X.cI X.cZ X.cV hP (by decide) (by decide) S hr_1) rfl rfl q3_103 cw_X5_copy (hP.1 1 (by decide)).2.2.2.2.1.o rfl rfl rfl ⟨rfl, rfl, Nat.le_of_ble_eq_true rfl, Nat.le_of_ble_eq_true rfl⟩ _ rfl (Nat.le_of_ble_eq_true rfl) dX6_wouldServe_8 ?_
  refine j_aload_n h 0 rfl rfl dX6_wouldServe_11 ?_
  refine j_get h hP.2.2.2.2.2.1 inX6 rfl 1 (by decide) rfl q1_214 rfl dX6_wouldServe_12 ?_
  refine j_iload_n h 1 rfl rfl dX6_wouldServe_15 ?_
  refine j_iload_n h 2 rfl rfl dX6_wouldServe_16 ?_
  obtain ⟨r_2, hr_2, hF⟩ := bind_row hF
  refine j_callVv h (st := []) (S' := (setV r_1 1 r_2)) (c_X5_takeToken X.l X.D X.cI X.cZ X.cV (hP.v r_1 1 (by decide)) (r_1.1 1) p1 p2 hr_2) (congrArg X.B (setV_id r_1 1)) rfl q2_78 cw_X5_takeToken (hP.1 1 (by decide)).2.2.2.2.1.o rfl rfl rfl ⟨rfl, rfl, Nat.le_of_ble_eq_true rfl, Nat.le_of_ble_eq_true rfl⟩ _ rfl (Nat.le_of_ble_eq_true rfl) dX6_wouldServe_17 ?_
  refine j_letS hF (fun S_3 hF => ?_)
  refine j_aload_n h 0 rfl rfl dX6_wouldServe_20 ?_
  refine j_get h hP.2.2.2.2.2.1 inX6 rfl 1 (by decide) rfl q1_214 rfl dX6_wouldServe_21 ?_
  refine j_iload_n h 1 rfl rfl dX6_wouldServe_24 ?_
  refine j_iload_n h 3 rfl rfl dX6_wouldServe_25 ?_
  obtain ⟨r_4, hr_4, hF⟩ := bind_row hF
  refine j_callVi h (st := []) (S' := (setV S_3 1 r_4.2)) (c_X5_hoursMet X.l X.D X.cI X.cZ X.cV (hP.v S_3 1 (by decide)) (S_3.1 1) p1 p3 hr_4) (congrArg X.B (setV_id S_3 1)) rfl q3_188 cw_X5_hoursMet (hP.1 1 (by decide)).2.2.2.2.1.o rfl rfl rfl ⟨rfl, rfl, Nat.le_of_ble_eq_true rfl, Nat.le_of_ble_eq_true rfl⟩ _ rfl (Nat.le_of_ble_eq_true rfl) dX6_wouldServe_26 ?_
  refine j_letS hF (fun S_5 hF => ?_)
  refine j_iload_n h 3 rfl rfl dX6_wouldServe_29 ?_
  refine j_icmp_lt h 37 (by decide) dX6_wouldServe_30 hF (fun hF => ?_) (fun hF => ?_)
  · refine j_iconst h (v := 0) (by decide) dX6_wouldServe_37 ?_
    cases hF
    exact hE _ _ dX6_wouldServe_38 (isB_v (y := (0 : Int32)) (by decide))
  · refine j_iconst h (v := 1) (by decide) dX6_wouldServe_33 ?_
    refine j_goto h 38 (by decide) dX6_wouldServe_34 ?_
    cases hF
    exact hE _ _ dX6_wouldServe_38 (isB_v (y := (1 : Int32)) (by decide))
theorem c_X6_wouldServe (l : Launch) (D : va_G) (cI cZ cV : ClassId) {B : PS → va_W} {AD : Nat → Nat → Nat} (hP : IsPool cI cZ cV B AD) (S : PS) (p1 : Int32) (p2 : Int32) (p3 : Int32) {r : Int32 × PS} (hF : f_X6_wouldServe S p1 p2 p3 = some r) : CTz l D (jtys cI cZ cV) yX6_wouldServe cX6_wouldServe 4 (some .boolean) rmX6_wouldServe B [.ref (AD 12 7), .int p1, .int p2, .int p3] S r.1 r.2 := by
  refine CTz.of [(0, .ref (AD 12 7)), (1, .int p1), (2, .int p2), (3, .int p3)] rfl (Nat.le_of_ble_eq_true rfl) (by decide) ⟨rfl, rfl⟩ (fun X e1 e2 e3 e4 e5 e6 e7 h hE => ?_)
  subst e1; subst e2; subst e3; subst e4; subst e5; subst e6
  exact k_X6_wouldServe h hP e7 hE hF
abbrev rmX6_tokenFor : Room := { frames := 6, cells := 0, slots := 0, locals := 139 }
theorem cw_X6_tokenFor : CWv RX6 yX6_tokenFor cX6_tokenFor 6 (some .int) 2 := ⟨q3_193, q3_194, q1_1, q3_195, ⟨rfl, by decide +kernel, by decide +kernel, by decide +kernel⟩⟩
set_option maxHeartbeats 4000000 in
set_option maxRecDepth 100000 in
theorem k_X6_tokenFor_83 {X : JX PS} {AD : Nat → Nat → Nat} (h : OK X RX6 cX6_tokenFor rmX6_tokenFor) (hP : IsPool X.cI X.cZ X.cV X.B AD) (hnL : X.nL = 6) {res : Int32 × PS} {S : PS} {x1 : Int32} {x2 : Int32} {x3 : Int32} {x4 : Int32} {K26 : Int32 → Int32 → PS → Option (Int32 × PS)} (hK26 : ∀ (x3 : Int32) (x4 : Int32) (S : PS), K26 x3 x4 S = some res → J X 26 [(0, .ref (AD 12 7)), (1, .int x1), (2, .int x2), (3, .int x3), (4, .int x4)] [] S) (hE : EXi X cX6_tokenFor res.1 res.2) (hF : f_X6_tokenFor_83 K26 S x1 x2 x3 x4 = some res) : J X 83 [(0, .ref (AD 12 7)), (1, .int x1), (2, .int x2), (3, .int x3), (4, .int x4)] [] S := by
  rw [f_X6_tokenFor_83] at hF
  refine j_iincL hF (fun x_4 ex_4 hF => ?_)
  refine j_iinc h hnL 4 [(4, .int x_4), (0, .ref (AD 12 7)), (1, .int x1), (2, .int x2), (3, .int x3)] rfl ex_4 (by decide) (by decide) rfl dX6_tokenFor_83 ?_
  refine j_goto h 26 (by decide) dX6_tokenFor_86 ?_
  exact j_sub [1, 2, 3, 4, 0] rfl (hK26 _ _ _ hF)
set_option maxHeartbeats 4000000 in
set_option maxRecDepth 100000 in
theorem k_X6_tokenFor_26 {X : JX PS} {AD : Nat → Nat → Nat} (h : OK X RX6 cX6_tokenFor rmX6_tokenFor) (hP : IsPool X.cI X.cZ X.cV X.B AD) (hnL : X.nL = 6) {res : Int32 × PS} {x1 : Int32} {x2 : Int32} (hE : EXi X cX6_tokenFor res.1 res.2) : ∀ (n : Nat) (x3 : Int32) (x4 : Int32) (S : PS), f_X6_tokenFor_26 x1 x2 n x3 x4 S = some res → J X 26 [(0, .ref (AD 12 7)), (1, .int x1), (2, .int x2), (3, .int x3), (4, .int x4)] [] S := by
  intro n
  induction n with
  | zero =>
    intro x3 x4 S hF
    rw [f_X6_tokenFor_26] at hF
    cases hF
  | succ n ih =>
    intro x3 x4 S hF
    rw [f_X6_tokenFor_26] at hF
    refine j_iload h 4 rfl dX6_tokenFor_26 ?_
    refine j_sipush h (v := 500) (by decide) dX6_tokenFor_28 ?_
    refine j_icmp_gt h 89 (by decide) dX6_tokenFor_31 hF (fun hF => ?_) (fun hF => ?_)
    · refine j_ldc h (v := -1000001) q3_86 dX6_tokenFor_89 ?_
      cases hF
      exact hE _ _ dX6_tokenFor_91
    · refine j_aload_n h 0 rfl rfl dX6_tokenFor_34 ?_
      refine j_get h hP.2.2.2.2.2.1 inX6 rfl 0 (by decide) rfl q1_213 rfl dX6_tokenFor_35 ?_
      refine j_iload_n h 1 rfl rfl dX6_tokenFor_38 ?_
      refine j_iload h 4 rfl dX6_tokenFor_39 ?_
      obtain ⟨r_3, hr_3, hF⟩ := bind_row hF
      refine j_callVi h (st := []) (S' := S) (c_X5_partForLoans X.l X.D X.cI X.cZ X.cV (hP.v S 0 (by decide)) (S.1 0) x1 x4 hr_3) (congrArg X.B (setV_id S 0)) (congrArg X.B (setV_id S 0)) q3_196 cw_X5_partForLoans (hP.1 0 (by decide)).2.2.2.2.1.o rfl rfl rfl ⟨rfl, rfl, Nat.le_of_ble_eq_true rfl, Nat.le_of_ble_eq_true rfl⟩ _ rfl (Nat.le_of_ble_eq_true rfl) dX6_tokenFor_41 ?_
      refine j_istore h hnL [(5, .int r_3), (0, .ref (AD 12 7)), (1, .int x1), (2, .int x2), (3, .int x3), (4, .int x4)] (by decide) rfl dX6_tokenFor_44 ?_
      refine j_iload h 0 rfl dX6_tokenFor_46 ?_
      refine j_iload_n h 4 rfl rfl dX6_tokenFor_48 ?_
      refine j_icmp_eq h 83 (by decide) dX6_tokenFor_49 hF (fun hF => ?_) (fun hF => ?_)
      · exact j_sub [1, 2, 3, 4, 5] rfl (k_X6_tokenFor_83 h hP hnL ih hE hF)
      · refine j_aload_n h 1 rfl rfl dX6_tokenFor_52 ?_
        refine j_get h hP.2.2.2.2.2.1 inX6 rfl 0 (by decide) rfl q1_213 rfl dX6_tokenFor_53 ?_
        refine j_iload_n h 2 rfl rfl dX6_tokenFor_56 ?_
        refine j_iload h 5 rfl dX6_tokenFor_57 ?_
        refine j_iload_n h 3 rfl rfl dX6_tokenFor_59 ?_
        obtain ⟨r_5, hr_5, hF⟩ := bind_row hF
        refine j_callVz h (st := []) (S' := S) (c_X5_affords X.l X.D X.cI X.cZ X.cV (hP.v S 0 (by decide)) (S.1 0) x1 x4 x2 hr_5) (congrArg X.B (setV_id S 0)) (congrArg X.B (setV_id S 0)) q3_197 cw_X5_affords (hP.1 0 (by decide)).2.2.2.2.1.o rfl rfl rfl ⟨rfl, rfl, Nat.le_of_ble_eq_true rfl, Nat.le_of_ble_eq_true rfl⟩ _ rfl (Nat.le_of_ble_eq_true rfl) dX6_tokenFor_60 (fun hz_r_5 => ?_)
        refine j_if_eq h 83 (by decide) dX6_tokenFor_63 hF (fun hF => ?_) (fun hF => ?_)
        · exact j_sub [1, 2, 3, 4, 5] rfl (k_X6_tokenFor_83 h hP hnL ih hE hF)
        · refine j_aload_n h 1 rfl rfl dX6_tokenFor_66 ?_
          refine j_iload_n h 2 rfl rfl dX6_tokenFor_67 ?_
          refine j_iload h 5 rfl dX6_tokenFor_68 ?_
          refine j_iload_n h 3 rfl rfl dX6_tokenFor_70 ?_
          obtain ⟨r_6, hr_6, hF⟩ := bind_row hF
          refine j_callVz h (st := []) (S' := r_6.2) (c_X6_wouldServe X.l X.D X.cI X.cZ X.cV hP S x1 x4 x2 hr_6) rfl rfl q3_201 cw_X6_wouldServe hP.2.2.2.2.2.1 rfl rfl rfl ⟨rfl, rfl, Nat.le_of_ble_eq_true rfl, Nat.le_of_ble_eq_true rfl⟩ _ rfl (Nat.le_of_ble_eq_true rfl) dX6_tokenFor_71 (fun hz_r_6 => ?_)
          refine j_if_eq h 80 (by decide) dX6_tokenFor_74 hF (fun hF => ?_) (fun hF => ?_)
          · refine j_iload h 0 rfl dX6_tokenFor_80 ?_
            refine j_istore_n h hnL [(3, .int r_3), (5, .int r_3), (0, .ref (AD 12 7)), (1, .int x1), (2, .int x2), (4, .int x4)] rfl (by decide) rfl dX6_tokenFor_82 ?_
            exact j_sub [2, 3, 4, 0, 5] rfl (k_X6_tokenFor_83 h hP hnL ih hE hF)
          · refine j_iload h 5 rfl dX6_tokenFor_77 ?_
            cases hF
            exact hE _ _ dX6_tokenFor_79
set_option maxHeartbeats 4000000 in
set_option maxRecDepth 100000 in
theorem k_X6_tokenFor {X : JX PS} {AD : Nat → Nat → Nat} (h : OK X RX6 cX6_tokenFor rmX6_tokenFor) (hP : IsPool X.cI X.cZ X.cV X.B AD) (hnL : X.nL = 6) {res : Int32 × PS} {S : PS} {p1 : Int32} {p2 : Int32} (hE : EXi X cX6_tokenFor res.1 res.2) (hF : f_X6_tokenFor S p1 p2 = some res) : J X 0 [(0, .ref (AD 12 7)), (1, .int p1), (2, .int p2)] [] S := by
  rw [f_X6_tokenFor] at hF
  refine j_aload_n h 0 rfl rfl dX6_tokenFor_0 ?_
  refine j_iload_n h 1 rfl rfl dX6_tokenFor_1 ?_
  obtain ⟨r_1, hr_1, hF⟩ := bind_row hF
  refine j_callVz h (st := []) (S' := S) (c_X6_isHouse X.l X.D X.cI X.cZ X.cV hP S p1 hr_1) rfl rfl q2_43 cw_X6_isHouse hP.2.2.2.2.2.1 rfl rfl rfl ⟨rfl, rfl, Nat.le_of_ble_eq_true rfl, Nat.le_of_ble_eq_true rfl⟩ _ rfl (Nat.le_of_ble_eq_true rfl) dX6_tokenFor_2 (fun hz_r_1 => ?_)
  refine j_if_eq h 18 (by decide) dX6_tokenFor_5 hF (fun hF => ?_) (fun hF => ?_)
  · refine j_ldc h (v := -1000002) q1_239 dX6_tokenFor_18 ?_
    cases hF
    exact hE _ _ dX6_tokenFor_20
  · refine j_iload_n h 2 rfl rfl dX6_tokenFor_8 ?_
    refine j_iconst h (v := 1) (by decide) dX6_tokenFor_9 ?_
    refine j_bipush h (v := 48) (by decide) dX6_tokenFor_10 ?_
    obtain ⟨r_2, hr_2, hF⟩ := bind_row hF
    refine j_callSz h (st := []) (S' := S) (c_X6_within X.l X.D X.cI X.cZ X.cV (B := X.B) S p2 (1 : Int32) (48 : Int32) hr_2) rfl rfl q1_236 cw_X6_within rfl ⟨rfl, rfl, Nat.le_of_ble_eq_true rfl, Nat.le_of_ble_eq_true rfl⟩ _ rfl (Nat.le_of_ble_eq_true rfl) dX6_tokenFor_12 (fun hz_r_2 => ?_)
    refine j_if_ne h 21 (by decide) dX6_tokenFor_15 hF (fun hF => ?_) (fun hF => ?_)
    · refine j_ldc h (v := -1000002) q1_239 dX6_tokenFor_18 ?_
      cases hF
      exact hE _ _ dX6_tokenFor_20
    · refine j_iconst h (v := -1) (by decide) dX6_tokenFor_21 ?_
      refine j_istore_n h hnL [(3, .int (-1 : Int32)), (0, .ref (AD 12 7)), (1, .int p1), (2, .int p2)] rfl (by decide) rfl dX6_tokenFor_22 ?_
      refine j_iconst h (v := 0) (by decide) dX6_tokenFor_23 ?_
      refine j_istore h hnL [(4, .int (0 : Int32)), (3, .int (-1 : Int32)), (0, .ref (AD 12 7)), (1, .int p1), (2, .int p2)] (by decide) rfl dX6_tokenFor_24 ?_
      exact j_sub [2, 3, 4, 1, 0] rfl (k_X6_tokenFor_26 h hP hnL hE fuel _ _ _ hF)
theorem c_X6_tokenFor (l : Launch) (D : va_G) (cI cZ cV : ClassId) {B : PS → va_W} {AD : Nat → Nat → Nat} (hP : IsPool cI cZ cV B AD) (S : PS) (p1 : Int32) (p2 : Int32) {r : Int32 × PS} (hF : f_X6_tokenFor S p1 p2 = some r) : CTi l D (jtys cI cZ cV) yX6_tokenFor cX6_tokenFor 6 (some .int) rmX6_tokenFor B [.ref (AD 12 7), .int p1, .int p2] S r.1 r.2 := by
  refine CTi.of [(0, .ref (AD 12 7)), (1, .int p1), (2, .int p2)] rfl (Nat.le_of_ble_eq_true rfl) (by decide) ⟨rfl, rfl⟩ (fun X e1 e2 e3 e4 e5 e6 e7 h hE => ?_)
  subst e1; subst e2; subst e3; subst e4; subst e5; subst e6
  exact k_X6_tokenFor h hP e7 hE hF
abbrev rmX6_met : Room := { frames := 1, cells := 0, slots := 0, locals := 23 }
theorem cw_X6_met : CWv RX6 yX6_met cX6_met 2 (some .double) 0 := ⟨q3_206, q3_207, q1_1, q3_208, ⟨rfl, by decide +kernel, by decide +kernel, by decide +kernel⟩⟩
set_option maxHeartbeats 4000000 in
set_option maxRecDepth 100000 in
theorem k_X6_met {X : JX PS} {AD : Nat → Nat → Nat} (h : OK X RX6 cX6_met rmX6_met) (hP : IsPool X.cI X.cZ X.cV X.B AD) (hnL : X.nL = 2) {res : UInt64} {S : PS} (hE : EXd X cX6_met res S) (hF : f_X6_met S = some res) : J X 0 [(0, .ref (AD 12 7))] [] S := by
  rw [f_X6_met] at hF
  refine j_aload_n h 0 rfl rfl dX6_met_0 ?_
  refine j_get h hP.2.2.2.2.2.1 inX6 rfl 0 (by decide) rfl q1_213 rfl dX6_met_1 ?_
  refine j_get h (hP.1 0 (by decide)).2.2.2.2.1.o inX5 rfl 0 (by decide) rfl q1_123 rfl dX6_met_4 ?_
  refine j_aload_n h 0 rfl rfl dX6_met_7 ?_
  refine j_get h hP.2.2.2.2.2.1 inX6 rfl 0 (by decide) rfl q1_213 rfl dX6_met_8 ?_
  refine j_get h (hP.1 0 (by decide)).2.2.2.2.1.o inX5 rfl 0 (by decide) rfl q1_123 rfl dX6_met_11 ?_
  refine j_get h (hP.1 0 (by decide)).2.1.o inX2 rfl 2 (by decide) rfl q1_39 rfl dX6_met_14 ?_
  obtain ⟨r_1, hr_1, hF⟩ := bind_row hF
  refine j_callVi h (st := []) (S' := S) (c_X2_sum X.l X.D X.cI X.cZ X.cV (hP.v S 0 (by decide)) (by decide) (S.1 0) hr_1) (congrArg X.B (setV_id S 0)) (congrArg X.B (setV_id S 0)) q3_209 cw_X2_sum (hP.1 0 (by decide)).2.1.o rfl rfl rfl ⟨rfl, rfl, Nat.le_of_ble_eq_true rfl, Nat.le_of_ble_eq_true rfl⟩ _ rfl (Nat.le_of_ble_eq_true rfl) dX6_met_17 ?_
  refine j_istore_n h hnL [(1, .int r_1), (0, .ref (AD 12 7))] rfl (by decide) rfl dX6_met_20 ?_
  refine j_iload_n h 0 rfl rfl dX6_met_21 ?_
  refine j_if_le h 52 (by decide) dX6_met_22 hF (fun hF => ?_) (fun hF => ?_)
  · refine j_dconst1 h dX6_met_52 ?_
    cases hF
    exact hE _ _ dX6_met_53
  · refine j_aload_n h 1 rfl rfl dX6_met_25 ?_
    refine j_get h hP.2.2.2.2.2.1 inX6 rfl 0 (by decide) rfl q1_213 rfl dX6_met_26 ?_
    refine j_get h (hP.1 0 (by decide)).2.2.2.2.1.o inX5 rfl 0 (by decide) rfl q1_123 rfl dX6_met_29 ?_
    refine j_aload_n h 1 rfl rfl dX6_met_32 ?_
    refine j_get h hP.2.2.2.2.2.1 inX6 rfl 0 (by decide) rfl q1_213 rfl dX6_met_33 ?_
    refine j_get h (hP.1 0 (by decide)).2.2.2.2.1.o inX5 rfl 0 (by decide) rfl q1_123 rfl dX6_met_36 ?_
    refine j_get h (hP.1 0 (by decide)).2.1.o inX2 rfl 6 (by decide) rfl q1_48 rfl dX6_met_39 ?_
    obtain ⟨r_2, hr_2, hF⟩ := bind_row hF
    refine j_callVi h (st := []) (S' := S) (c_X2_sum X.l X.D X.cI X.cZ X.cV (hP.v S 0 (by decide)) (by decide) (S.1 0) hr_2) (congrArg X.B (setV_id S 0)) (congrArg X.B (setV_id S 0)) q3_209 cw_X2_sum (hP.1 0 (by decide)).2.1.o rfl rfl rfl ⟨rfl, rfl, Nat.le_of_ble_eq_true rfl, Nat.le_of_ble_eq_true rfl⟩ _ rfl (Nat.le_of_ble_eq_true rfl) dX6_met_42 ?_
    refine j_i2d h dX6_met_45 ?_
    refine j_iload_n h 0 rfl rfl dX6_met_46 ?_
    refine j_i2d h dX6_met_47 ?_
    obtain ⟨hb_3, hF⟩ := bnd_row hF
    refine j_ddiv h (n64_v hb_3) dX6_met_48 ?_
    refine j_goto h 53 (by decide) dX6_met_49 ?_
    cases hF
    exact hE _ _ dX6_met_53
theorem c_X6_met (l : Launch) (D : va_G) (cI cZ cV : ClassId) {B : PS → va_W} {AD : Nat → Nat → Nat} (hP : IsPool cI cZ cV B AD) (S : PS) {r : UInt64} (hF : f_X6_met S = some r) : CTd l D (jtys cI cZ cV) yX6_met cX6_met 2 (some .double) rmX6_met B [.ref (AD 12 7)] S r S := by
  refine CTd.of [(0, .ref (AD 12 7))] rfl (Nat.le_of_ble_eq_true rfl) (by decide) ⟨rfl, rfl⟩ (fun X e1 e2 e3 e4 e5 e6 e7 h hE => ?_)
  subst e1; subst e2; subst e3; subst e4; subst e5; subst e6
  exact k_X6_met h hP e7 hE hF
abbrev rmX6_mix : Room := { frames := 0, cells := 0, slots := 0, locals := 0 }
theorem cw_X6_mix : CWs yX6_mix cX6_mix 4 (some .long) 2 := ⟨q3_221, q1_1, q3_222, ⟨by decide +kernel, by decide +kernel, by decide +kernel⟩⟩
set_option maxHeartbeats 4000000 in
set_option maxRecDepth 100000 in
theorem k_X6_mix {τ : Type} {X : JX τ} (h : OK X RX6 cX6_mix rmX6_mix) (hnL : X.nL = 4) {res : Int64} {S : τ} {p1 : Int64} {p2 : Int64} (hE : EXl X cX6_mix res S) (hF : f_X6_mix p1 p2 = some res) : J X 0 [(0, .long p1), (2, .long p2)] [] S := by
  rw [f_X6_mix] at hF
  refine j_ldc2 h (v := 31) q3_223 dX6_mix_0 ?_
  refine j_lload_n h 0 rfl rfl dX6_mix_3 ?_
  refine j_lmul h dX6_mix_4 ?_
  refine j_lload_n h 1 rfl rfl dX6_mix_5 ?_
  refine j_ladd h dX6_mix_6 ?_
  cases hF
  exact hE _ _ dX6_mix_7
theorem c_X6_mix (l : Launch) (D : va_G) (cI cZ cV : ClassId) {τ : Type} {B : τ → va_W} (S : τ) (p1 : Int64) (p2 : Int64) {r : Int64} (hF : f_X6_mix p1 p2 = some r) : CTl l D (jtys cI cZ cV) yX6_mix cX6_mix 4 (some .long) rmX6_mix B [.long p1, .long p2] S r S := by
  refine CTl.of [(0, .long p1), (2, .long p2)] rfl (Nat.le_of_ble_eq_true rfl) (by decide) ⟨rfl, rfl⟩ (fun X e1 e2 e3 e4 e5 e6 e7 h hE => ?_)
  subst e1; subst e2; subst e3; subst e4; subst e5; subst e6
  exact k_X6_mix h e7 hE hF
abbrev rmX6_mixTotals : Room := { frames := 3, cells := 0, slots := 0, locals := 63 }
theorem cw_X6_mixTotals : CWv RX6 yX6_mixTotals cX6_mixTotals 6 (some .long) 1 := ⟨q3_217, qs22, q1_1, q3_218, ⟨rfl, by decide +kernel, by decide +kernel, by decide +kernel⟩⟩
set_option maxHeartbeats 4000000 in
set_option maxRecDepth 100000 in
theorem k_X6_mixTotals_60 {X : JX PS} {AD : Nat → Nat → Nat} (h : OK X RX6 cX6_mixTotals rmX6_mixTotals) (hP : IsPool X.cI X.cZ X.cV X.B AD) (hnL : X.nL = 6) {res : Int64} {S : PS} (hE : EXl X cX6_mixTotals res S) : ∀ (n : Nat) (y3 : Int64) (x5 : Int32), f_X6_mixTotals_60 S n y3 x5 = some res → J X 60 [(0, .ref (AD 12 7)), (3, .long y3), (5, .int x5)] [] S := by
  intro n
  induction n with
  | zero =>
    intro y3 x5 hF
    rw [f_X6_mixTotals_60] at hF
    cases hF
  | succ n ih =>
    intro y3 x5 hF
    rw [f_X6_mixTotals_60] at hF
    refine j_iload h 2 rfl dX6_mixTotals_60 ?_
    refine j_bipush h (v := 8) (by decide) dX6_mixTotals_62 ?_
    refine j_icmp_ge h 85 (by decide) dX6_mixTotals_64 hF (fun hF => ?_) (fun hF => ?_)
    · refine j_lload_n h 1 rfl rfl dX6_mixTotals_85 ?_
      cases hF
      exact hE _ _ dX6_mixTotals_86
    · refine j_lload_n h 1 rfl rfl dX6_mixTotals_67 ?_
      refine j_aload_n h 0 rfl rfl dX6_mixTotals_68 ?_
      refine j_iload h 2 rfl dX6_mixTotals_69 ?_
      obtain ⟨r_1, hr_1, hF⟩ := bind_row hF
      refine j_callVi h (st := [.long y3]) (S' := S) (c_X6_account X.l X.D X.cI X.cZ X.cV hP S x5 hr_1) rfl rfl q3_225 cw_X6_account hP.2.2.2.2.2.1 rfl rfl rfl ⟨rfl, rfl, Nat.le_of_ble_eq_true rfl, Nat.le_of_ble_eq_true rfl⟩ _ rfl (Nat.le_of_ble_eq_true rfl) dX6_mixTotals_71 ?_
      refine j_i2l h dX6_mixTotals_74 ?_
      obtain ⟨r_2, hr_2, hF⟩ := bind_row hF
      refine j_callSl h (st := []) (S' := S) (c_X6_mix X.l X.D X.cI X.cZ X.cV (B := X.B) S y3 r_1.toInt64 hr_2) rfl rfl q3_220 cw_X6_mix rfl ⟨rfl, rfl, Nat.le_of_ble_eq_true rfl, Nat.le_of_ble_eq_true rfl⟩ _ rfl (Nat.le_of_ble_eq_true rfl) dX6_mixTotals_75 ?_
      refine j_lstore_n h hnL [(3, .long r_2), (0, .ref (AD 12 7)), (5, .int x5)] rfl (by decide) rfl dX6_mixTotals_78 ?_
      refine j_iincL hF (fun x_3 ex_3 hF => ?_)
      refine j_iinc h hnL 2 [(5, .int x_3), (3, .long r_2), (0, .ref (AD 12 7))] rfl ex_3 (by decide) (by decide) rfl dX6_mixTotals_79 ?_
      refine j_goto h 60 (by decide) dX6_mixTotals_82 ?_
      exact j_sub [2, 1, 0] rfl (ih _ _ hF)
set_option maxHeartbeats 4000000 in
set_option maxRecDepth 100000 in
theorem k_X6_mixTotals_33 {X : JX PS} {AD : Nat → Nat → Nat} (h : OK X RX6 cX6_mixTotals rmX6_mixTotals) (hP : IsPool X.cI X.cZ X.cV X.B AD) (hnL : X.nL = 6) {res : Int64} {S : PS} (hE : EXl X cX6_mixTotals res S) : ∀ (n : Nat) (y3 : Int64) (x5 : Int32), f_X6_mixTotals_33 S n y3 x5 = some res → J X 33 [(0, .ref (AD 12 7)), (3, .long y3), (5, .int x5)] [] S := by
  intro n
  induction n with
  | zero =>
    intro y3 x5 hF
    rw [f_X6_mixTotals_33] at hF
    cases hF
  | succ n ih =>
    intro y3 x5 hF
    rw [f_X6_mixTotals_33] at hF
    refine j_iload h 2 rfl dX6_mixTotals_33 ?_
    refine j_iconst h (v := 4) (by decide) dX6_mixTotals_35 ?_
    refine j_icmp_ge h 57 (by decide) dX6_mixTotals_36 hF (fun hF => ?_) (fun hF => ?_)
    · refine j_iconst h (v := 0) (by decide) dX6_mixTotals_57 ?_
      refine j_istore h hnL [(5, .int (0 : Int32)), (0, .ref (AD 12 7)), (3, .long y3)] (by decide) rfl dX6_mixTotals_58 ?_
      exact j_sub [1, 2, 0] rfl (k_X6_mixTotals_60 h hP hnL hE fuel _ _ hF)
    · refine j_lload_n h 1 rfl rfl dX6_mixTotals_39 ?_
      refine j_aload_n h 0 rfl rfl dX6_mixTotals_40 ?_
      refine j_iload h 2 rfl dX6_mixTotals_41 ?_
      obtain ⟨r_4, hr_4, hF⟩ := bind_row hF
      refine j_callVi h (st := [.long y3]) (S' := S) (c_X6_setting X.l X.D X.cI X.cZ X.cV hP S x5 hr_4) rfl rfl q3_224 cw_X6_setting hP.2.2.2.2.2.1 rfl rfl rfl ⟨rfl, rfl, Nat.le_of_ble_eq_true rfl, Nat.le_of_ble_eq_true rfl⟩ _ rfl (Nat.le_of_ble_eq_true rfl) dX6_mixTotals_43 ?_
      refine j_i2l h dX6_mixTotals_46 ?_
      obtain ⟨r_5, hr_5, hF⟩ := bind_row hF
      refine j_callSl h (st := []) (S' := S) (c_X6_mix X.l X.D X.cI X.cZ X.cV (B := X.B) S y3 r_4.toInt64 hr_5) rfl rfl q3_220 cw_X6_mix rfl ⟨rfl, rfl, Nat.le_of_ble_eq_true rfl, Nat.le_of_ble_eq_true rfl⟩ _ rfl (Nat.le_of_ble_eq_true rfl) dX6_mixTotals_47 ?_
      refine j_lstore_n h hnL [(3, .long r_5), (0, .ref (AD 12 7)), (5, .int x5)] rfl (by decide) rfl dX6_mixTotals_50 ?_
      refine j_iincL hF (fun x_6 ex_6 hF => ?_)
      refine j_iinc h hnL 2 [(5, .int x_6), (3, .long r_5), (0, .ref (AD 12 7))] rfl ex_6 (by decide) (by decide) rfl dX6_mixTotals_51 ?_
      refine j_goto h 33 (by decide) dX6_mixTotals_54 ?_
      exact j_sub [2, 1, 0] rfl (ih _ _ hF)
set_option maxHeartbeats 4000000 in
set_option maxRecDepth 100000 in
theorem k_X6_mixTotals_5 {X : JX PS} {AD : Nat → Nat → Nat} (h : OK X RX6 cX6_mixTotals rmX6_mixTotals) (hP : IsPool X.cI X.cZ X.cV X.B AD) (hnL : X.nL = 6) {res : Int64} {S : PS} (hE : EXl X cX6_mixTotals res S) : ∀ (n : Nat) (y3 : Int64) (x5 : Int32), f_X6_mixTotals_5 S n y3 x5 = some res → J X 5 [(0, .ref (AD 12 7)), (3, .long y3), (5, .int x5)] [] S := by
  intro n
  induction n with
  | zero =>
    intro y3 x5 hF
    rw [f_X6_mixTotals_5] at hF
    cases hF
  | succ n ih =>
    intro y3 x5 hF
    rw [f_X6_mixTotals_5] at hF
    refine j_iload h 2 rfl dX6_mixTotals_5 ?_
    refine j_bipush h (v := 7) (by decide) dX6_mixTotals_7 ?_
    refine j_icmp_gt h 30 (by decide) dX6_mixTotals_9 hF (fun hF => ?_) (fun hF => ?_)
    · refine j_iconst h (v := 0) (by decide) dX6_mixTotals_30 ?_
      refine j_istore h hnL [(5, .int (0 : Int32)), (0, .ref (AD 12 7)), (3, .long y3)] (by decide) rfl dX6_mixTotals_31 ?_
      exact j_sub [1, 2, 0] rfl (k_X6_mixTotals_33 h hP hnL hE fuel _ _ hF)
    · refine j_lload_n h 1 rfl rfl dX6_mixTotals_12 ?_
      refine j_aload_n h 0 rfl rfl dX6_mixTotals_13 ?_
      refine j_iload h 2 rfl dX6_mixTotals_14 ?_
      obtain ⟨r_7, hr_7, hF⟩ := bind_row hF
      refine j_callVi h (st := [.long y3]) (S' := S) (c_X6_count X.l X.D X.cI X.cZ X.cV hP S x5 hr_7) rfl rfl q3_219 cw_X6_count hP.2.2.2.2.2.1 rfl rfl rfl ⟨rfl, rfl, Nat.le_of_ble_eq_true rfl, Nat.le_of_ble_eq_true rfl⟩ _ rfl (Nat.le_of_ble_eq_true rfl) dX6_mixTotals_16 ?_
      refine j_i2l h dX6_mixTotals_19 ?_
      obtain ⟨r_8, hr_8, hF⟩ := bind_row hF
      refine j_callSl h (st := []) (S' := S) (c_X6_mix X.l X.D X.cI X.cZ X.cV (B := X.B) S y3 r_7.toInt64 hr_8) rfl rfl q3_220 cw_X6_mix rfl ⟨rfl, rfl, Nat.le_of_ble_eq_true rfl, Nat.le_of_ble_eq_true rfl⟩ _ rfl (Nat.le_of_ble_eq_true rfl) dX6_mixTotals_20 ?_
      refine j_lstore_n h hnL [(3, .long r_8), (0, .ref (AD 12 7)), (5, .int x5)] rfl (by decide) rfl dX6_mixTotals_23 ?_
      refine j_iincL hF (fun x_9 ex_9 hF => ?_)
      refine j_iinc h hnL 2 [(5, .int x_9), (3, .long r_8), (0, .ref (AD 12 7))] rfl ex_9 (by decide) (by decide) rfl dX6_mixTotals_24 ?_
      refine j_goto h 5 (by decide) dX6_mixTotals_27 ?_
      exact j_sub [2, 1, 0] rfl (ih _ _ hF)
set_option maxHeartbeats 4000000 in
set_option maxRecDepth 100000 in
theorem k_X6_mixTotals {X : JX PS} {AD : Nat → Nat → Nat} (h : OK X RX6 cX6_mixTotals rmX6_mixTotals) (hP : IsPool X.cI X.cZ X.cV X.B AD) (hnL : X.nL = 6) {res : Int64} {S : PS} {p1 : Int64} (hE : EXl X cX6_mixTotals res S) (hF : f_X6_mixTotals S p1 = some res) : J X 0 [(0, .ref (AD 12 7)), (1, .long p1)] [] S := by
  rw [f_X6_mixTotals] at hF
  refine j_lload_n h 1 rfl rfl dX6_mixTotals_0 ?_
  refine j_lstore_n h hnL [(3, .long p1), (0, .ref (AD 12 7)), (1, .long p1)] rfl (by decide) rfl dX6_mixTotals_1 ?_
  refine j_iconst h (v := 0) (by decide) dX6_mixTotals_2 ?_
  refine j_istore h hnL [(5, .int (0 : Int32)), (3, .long p1), (0, .ref (AD 12 7)), (1, .long p1)] (by decide) rfl dX6_mixTotals_3 ?_
  exact j_sub [2, 1, 0] rfl (k_X6_mixTotals_5 h hP hnL hE fuel _ _ hF)
theorem c_X6_mixTotals (l : Launch) (D : va_G) (cI cZ cV : ClassId) {B : PS → va_W} {AD : Nat → Nat → Nat} (hP : IsPool cI cZ cV B AD) (S : PS) (p1 : Int64) {r : Int64} (hF : f_X6_mixTotals S p1 = some r) : CTl l D (jtys cI cZ cV) yX6_mixTotals cX6_mixTotals 6 (some .long) rmX6_mixTotals B [.ref (AD 12 7), .long p1] S r S := by
  refine CTl.of [(0, .ref (AD 12 7)), (1, .long p1)] rfl (Nat.le_of_ble_eq_true rfl) (by decide) ⟨rfl, rfl⟩ (fun X e1 e2 e3 e4 e5 e6 e7 h hE => ?_)
  subst e1; subst e2; subst e3; subst e4; subst e5; subst e6
  exact k_X6_mixTotals h hP e7 hE hF
abbrev rmX6_mixHouses : Room := { frames := 3, cells := 0, slots := 0, locals := 67 }
theorem cw_X6_mixHouses : CWv RX6 yX6_mixHouses cX6_mixHouses 7 (some .long) 1 := ⟨q3_228, qs23, q1_1, q3_229, ⟨rfl, by decide +kernel, by decide +kernel, by decide +kernel⟩⟩
set_option maxHeartbeats 4000000 in
set_option maxRecDepth 100000 in
theorem k_X6_mixHouses_23 {X : JX PS} {AD : Nat → Nat → Nat} (h : OK X RX6 cX6_mixHouses rmX6_mixHouses) (hP : IsPool X.cI X.cZ X.cV X.B AD) (hnL : X.nL = 7) {res : Int64} {S : PS} {x5 : Int32} {K5 : Int64 → Int32 → Option (Int64)} (hK5 : ∀ (y3 : Int64) (x5 : Int32), K5 y3 x5 = some res → J X 5 [(0, .ref (AD 12 7)), (3, .long y3), (5, .int x5)] [] S) (hE : EXl X cX6_mixHouses res S) : ∀ (n : Nat) (y3 : Int64) (x6 : Int32), f_X6_mixHouses_23 K5 S x5 n y3 x6 = some res → J X 23 [(0, .ref (AD 12 7)), (3, .long y3), (5, .int x5), (6, .int x6)] [] S := by
  intro n
  induction n with
  | zero =>
    intro y3 x6 hF
    rw [f_X6_mixHouses_23] at hF
    cases hF
  | succ n ih =>
    intro y3 x6 hF
    rw [f_X6_mixHouses_23] at hF
    refine j_iload h 3 rfl dX6_mixHouses_23 ?_
    refine j_bipush h (v := 10) (by decide) dX6_mixHouses_25 ?_
    refine j_icmp_gt h 50 (by decide) dX6_mixHouses_27 hF (fun hF => ?_) (fun hF => ?_)
    · refine j_iincL hF (fun x_1 ex_1 hF => ?_)
      refine j_iinc h hnL 2 [(5, .int x_1), (0, .ref (AD 12 7)), (3, .long y3), (6, .int x6)] rfl ex_1 (by decide) (by decide) rfl dX6_mixHouses_50 ?_
      refine j_goto h 5 (by decide) dX6_mixHouses_53 ?_
      exact j_sub [1, 2, 0] rfl (hK5 _ _ hF)
    · refine j_lload_n h 1 rfl rfl dX6_mixHouses_30 ?_
      refine j_aload_n h 0 rfl rfl dX6_mixHouses_31 ?_
      refine j_iload h 2 rfl dX6_mixHouses_32 ?_
      refine j_iload h 3 rfl dX6_mixHouses_34 ?_
      obtain ⟨r_2, hr_2, hF⟩ := bind_row hF
      refine j_callVi h (st := [.long y3]) (S' := S) (c_X6_house X.l X.D X.cI X.cZ X.cV hP S x5 x6 hr_2) rfl rfl q3_230 cw_X6_house hP.2.2.2.2.2.1 rfl rfl rfl ⟨rfl, rfl, Nat.le_of_ble_eq_true rfl, Nat.le_of_ble_eq_true rfl⟩ _ rfl (Nat.le_of_ble_eq_true rfl) dX6_mixHouses_36 ?_
      refine j_i2l h dX6_mixHouses_39 ?_
      obtain ⟨r_3, hr_3, hF⟩ := bind_row hF
      refine j_callSl h (st := []) (S' := S) (c_X6_mix X.l X.D X.cI X.cZ X.cV (B := X.B) S y3 r_2.toInt64 hr_3) rfl rfl q3_220 cw_X6_mix rfl ⟨rfl, rfl, Nat.le_of_ble_eq_true rfl, Nat.le_of_ble_eq_true rfl⟩ _ rfl (Nat.le_of_ble_eq_true rfl) dX6_mixHouses_40 ?_
      refine j_lstore_n h hnL [(3, .long r_3), (0, .ref (AD 12 7)), (5, .int x5), (6, .int x6)] rfl (by decide) rfl dX6_mixHouses_43 ?_
      refine j_iincL hF (fun x_4 ex_4 hF => ?_)
      refine j_iinc h hnL 3 [(6, .int x_4), (3, .long r_3), (0, .ref (AD 12 7)), (5, .int x5)] rfl ex_4 (by decide) (by decide) rfl dX6_mixHouses_44 ?_
      refine j_goto h 23 (by decide) dX6_mixHouses_47 ?_
      exact j_sub [2, 1, 3, 0] rfl (ih _ _ hF)
set_option maxHeartbeats 4000000 in
set_option maxRecDepth 100000 in
theorem k_X6_mixHouses_5 {X : JX PS} {AD : Nat → Nat → Nat} (h : OK X RX6 cX6_mixHouses rmX6_mixHouses) (hP : IsPool X.cI X.cZ X.cV X.B AD) (hnL : X.nL = 7) {res : Int64} {S : PS} (hE : EXl X cX6_mixHouses res S) : ∀ (n : Nat) (y3 : Int64) (x5 : Int32), f_X6_mixHouses_5 S n y3 x5 = some res → J X 5 [(0, .ref (AD 12 7)), (3, .long y3), (5, .int x5)] [] S := by
  intro n
  induction n with
  | zero =>
    intro y3 x5 hF
    rw [f_X6_mixHouses_5] at hF
    cases hF
  | succ n ih =>
    intro y3 x5 hF
    rw [f_X6_mixHouses_5] at hF
    refine j_iload h 2 rfl dX6_mixHouses_5 ?_
    refine j_aload_n h 0 rfl rfl dX6_mixHouses_7 ?_
    refine j_get h hP.2.2.2.2.2.1 inX6 rfl 0 (by decide) rfl q1_213 rfl dX6_mixHouses_8 ?_
    refine j_get h (hP.1 0 (by decide)).2.2.2.2.1.o inX5 rfl 0 (by decide) rfl q1_123 rfl dX6_mixHouses_11 ?_
    refine j_get h (hP.1 0 (by decide)).2.1.o inX2 rfl 0 (by decide) rfl q1_33 rfl dX6_mixHouses_14 ?_
    refine j_icmp_ge h 56 (by decide) dX6_mixHouses_17 hF (fun hF => ?_) (fun hF => ?_)
    · refine j_lload_n h 1 rfl rfl dX6_mixHouses_56 ?_
      cases hF
      exact hE _ _ dX6_mixHouses_57
    · refine j_iconst h (v := 0) (by decide) dX6_mixHouses_20 ?_
      refine j_istore h hnL [(6, .int (0 : Int32)), (0, .ref (AD 12 7)), (3, .long y3), (5, .int x5)] (by decide) rfl dX6_mixHouses_21 ?_
      exact j_sub [1, 2, 3, 0] rfl (k_X6_mixHouses_23 h hP hnL ih hE fuel _ _ hF)
set_option maxHeartbeats 4000000 in
set_option maxRecDepth 100000 in
theorem k_X6_mixHouses {X : JX PS} {AD : Nat → Nat → Nat} (h : OK X RX6 cX6_mixHouses rmX6_mixHouses) (hP : IsPool X.cI X.cZ X.cV X.B AD) (hnL : X.nL = 7) {res : Int64} {S : PS} {p1 : Int64} (hE : EXl X cX6_mixHouses res S) (hF : f_X6_mixHouses S p1 = some res) : J X 0 [(0, .ref (AD 12 7)), (1, .long p1)] [] S := by
  rw [f_X6_mixHouses] at hF
  refine j_lload_n h 1 rfl rfl dX6_mixHouses_0 ?_
  refine j_lstore_n h hnL [(3, .long p1), (0, .ref (AD 12 7)), (1, .long p1)] rfl (by decide) rfl dX6_mixHouses_1 ?_
  refine j_iconst h (v := 0) (by decide) dX6_mixHouses_2 ?_
  refine j_istore h hnL [(5, .int (0 : Int32)), (3, .long p1), (0, .ref (AD 12 7)), (1, .long p1)] (by decide) rfl dX6_mixHouses_3 ?_
  exact j_sub [2, 1, 0] rfl (k_X6_mixHouses_5 h hP hnL hE fuel _ _ hF)
theorem c_X6_mixHouses (l : Launch) (D : va_G) (cI cZ cV : ClassId) {B : PS → va_W} {AD : Nat → Nat → Nat} (hP : IsPool cI cZ cV B AD) (S : PS) (p1 : Int64) {r : Int64} (hF : f_X6_mixHouses S p1 = some r) : CTl l D (jtys cI cZ cV) yX6_mixHouses cX6_mixHouses 7 (some .long) rmX6_mixHouses B [.ref (AD 12 7), .long p1] S r S := by
  refine CTl.of [(0, .ref (AD 12 7)), (1, .long p1)] rfl (Nat.le_of_ble_eq_true rfl) (by decide) ⟨rfl, rfl⟩ (fun X e1 e2 e3 e4 e5 e6 e7 h hE => ?_)
  subst e1; subst e2; subst e3; subst e4; subst e5; subst e6
  exact k_X6_mixHouses h hP e7 hE hF
abbrev rmX6_mixLoans : Room := { frames := 3, cells := 0, slots := 0, locals := 65 }
theorem cw_X6_mixLoans : CWv RX6 yX6_mixLoans cX6_mixLoans 7 (some .long) 1 := ⟨q3_233, qs24, q1_1, q3_234, ⟨rfl, by decide +kernel, by decide +kernel, by decide +kernel⟩⟩
set_option maxHeartbeats 4000000 in
set_option maxRecDepth 100000 in
theorem k_X6_mixLoans_23 {X : JX PS} {AD : Nat → Nat → Nat} (h : OK X RX6 cX6_mixLoans rmX6_mixLoans) (hP : IsPool X.cI X.cZ X.cV X.B AD) (hnL : X.nL = 7) {res : Int64} {S : PS} {x5 : Int32} {K5 : Int64 → Int32 → Option (Int64)} (hK5 : ∀ (y3 : Int64) (x5 : Int32), K5 y3 x5 = some res → J X 5 [(0, .ref (AD 12 7)), (3, .long y3), (5, .int x5)] [] S) (hE : EXl X cX6_mixLoans res S) : ∀ (n : Nat) (y3 : Int64) (x6 : Int32), f_X6_mixLoans_23 K5 S x5 n y3 x6 = some res → J X 23 [(0, .ref (AD 12 7)), (3, .long y3), (5, .int x5), (6, .int x6)] [] S := by
  intro n
  induction n with
  | zero =>
    intro y3 x6 hF
    rw [f_X6_mixLoans_23] at hF
    cases hF
  | succ n ih =>
    intro y3 x6 hF
    rw [f_X6_mixLoans_23] at hF
    refine j_iload h 3 rfl dX6_mixLoans_23 ?_
    refine j_iconst h (v := 2) (by decide) dX6_mixLoans_25 ?_
    refine j_icmp_gt h 49 (by decide) dX6_mixLoans_26 hF (fun hF => ?_) (fun hF => ?_)
    · refine j_iincL hF (fun x_1 ex_1 hF => ?_)
      refine j_iinc h hnL 2 [(5, .int x_1), (0, .ref (AD 12 7)), (3, .long y3), (6, .int x6)] rfl ex_1 (by decide) (by decide) rfl dX6_mixLoans_49 ?_
      refine j_goto h 5 (by decide) dX6_mixLoans_52 ?_
      exact j_sub [1, 2, 0] rfl (hK5 _ _ hF)
    · refine j_lload_n h 1 rfl rfl dX6_mixLoans_29 ?_
      refine j_aload_n h 0 rfl rfl dX6_mixLoans_30 ?_
      refine j_iload h 2 rfl dX6_mixLoans_31 ?_
      refine j_iload h 3 rfl dX6_mixLoans_33 ?_
      obtain ⟨r_2, hr_2, hF⟩ := bind_row hF
      refine j_callVi h (st := [.long y3]) (S' := S) (c_X6_loan X.l X.D X.cI X.cZ X.cV hP S x5 x6 hr_2) rfl rfl q3_235 cw_X6_loan hP.2.2.2.2.2.1 rfl rfl rfl ⟨rfl, rfl, Nat.le_of_ble_eq_true rfl, Nat.le_of_ble_eq_true rfl⟩ _ rfl (Nat.le_of_ble_eq_true rfl) dX6_mixLoans_35 ?_
      refine j_i2l h dX6_mixLoans_38 ?_
      obtain ⟨r_3, hr_3, hF⟩ := bind_row hF
      refine j_callSl h (st := []) (S' := S) (c_X6_mix X.l X.D X.cI X.cZ X.cV (B := X.B) S y3 r_2.toInt64 hr_3) rfl rfl q3_220 cw_X6_mix rfl ⟨rfl, rfl, Nat.le_of_ble_eq_true rfl, Nat.le_of_ble_eq_true rfl⟩ _ rfl (Nat.le_of_ble_eq_true rfl) dX6_mixLoans_39 ?_
      refine j_lstore_n h hnL [(3, .long r_3), (0, .ref (AD 12 7)), (5, .int x5), (6, .int x6)] rfl (by decide) rfl dX6_mixLoans_42 ?_
      refine j_iincL hF (fun x_4 ex_4 hF => ?_)
      refine j_iinc h hnL 3 [(6, .int x_4), (3, .long r_3), (0, .ref (AD 12 7)), (5, .int x5)] rfl ex_4 (by decide) (by decide) rfl dX6_mixLoans_43 ?_
      refine j_goto h 23 (by decide) dX6_mixLoans_46 ?_
      exact j_sub [2, 1, 3, 0] rfl (ih _ _ hF)
set_option maxHeartbeats 4000000 in
set_option maxRecDepth 100000 in
theorem k_X6_mixLoans_5 {X : JX PS} {AD : Nat → Nat → Nat} (h : OK X RX6 cX6_mixLoans rmX6_mixLoans) (hP : IsPool X.cI X.cZ X.cV X.B AD) (hnL : X.nL = 7) {res : Int64} {S : PS} (hE : EXl X cX6_mixLoans res S) : ∀ (n : Nat) (y3 : Int64) (x5 : Int32), f_X6_mixLoans_5 S n y3 x5 = some res → J X 5 [(0, .ref (AD 12 7)), (3, .long y3), (5, .int x5)] [] S := by
  intro n
  induction n with
  | zero =>
    intro y3 x5 hF
    rw [f_X6_mixLoans_5] at hF
    cases hF
  | succ n ih =>
    intro y3 x5 hF
    rw [f_X6_mixLoans_5] at hF
    refine j_iload h 2 rfl dX6_mixLoans_5 ?_
    refine j_aload_n h 0 rfl rfl dX6_mixLoans_7 ?_
    refine j_get h hP.2.2.2.2.2.1 inX6 rfl 0 (by decide) rfl q1_213 rfl dX6_mixLoans_8 ?_
    refine j_get h (hP.1 0 (by decide)).2.2.2.2.1.o inX5 rfl 1 (by decide) rfl q1_125 rfl dX6_mixLoans_11 ?_
    refine j_get h (hP.1 0 (by decide)).2.2.1.o inX4 rfl 0 (by decide) rfl q1_85 rfl dX6_mixLoans_14 ?_
    refine j_icmp_ge h 55 (by decide) dX6_mixLoans_17 hF (fun hF => ?_) (fun hF => ?_)
    · refine j_lload_n h 1 rfl rfl dX6_mixLoans_55 ?_
      cases hF
      exact hE _ _ dX6_mixLoans_56
    · refine j_iconst h (v := 0) (by decide) dX6_mixLoans_20 ?_
      refine j_istore h hnL [(6, .int (0 : Int32)), (0, .ref (AD 12 7)), (3, .long y3), (5, .int x5)] (by decide) rfl dX6_mixLoans_21 ?_
      exact j_sub [1, 2, 3, 0] rfl (k_X6_mixLoans_23 h hP hnL ih hE fuel _ _ hF)
set_option maxHeartbeats 4000000 in
set_option maxRecDepth 100000 in
theorem k_X6_mixLoans {X : JX PS} {AD : Nat → Nat → Nat} (h : OK X RX6 cX6_mixLoans rmX6_mixLoans) (hP : IsPool X.cI X.cZ X.cV X.B AD) (hnL : X.nL = 7) {res : Int64} {S : PS} {p1 : Int64} (hE : EXl X cX6_mixLoans res S) (hF : f_X6_mixLoans S p1 = some res) : J X 0 [(0, .ref (AD 12 7)), (1, .long p1)] [] S := by
  rw [f_X6_mixLoans] at hF
  refine j_lload_n h 1 rfl rfl dX6_mixLoans_0 ?_
  refine j_lstore_n h hnL [(3, .long p1), (0, .ref (AD 12 7)), (1, .long p1)] rfl (by decide) rfl dX6_mixLoans_1 ?_
  refine j_iconst h (v := 0) (by decide) dX6_mixLoans_2 ?_
  refine j_istore h hnL [(5, .int (0 : Int32)), (3, .long p1), (0, .ref (AD 12 7)), (1, .long p1)] (by decide) rfl dX6_mixLoans_3 ?_
  exact j_sub [2, 1, 0] rfl (k_X6_mixLoans_5 h hP hnL hE fuel _ _ hF)
theorem c_X6_mixLoans (l : Launch) (D : va_G) (cI cZ cV : ClassId) {B : PS → va_W} {AD : Nat → Nat → Nat} (hP : IsPool cI cZ cV B AD) (S : PS) (p1 : Int64) {r : Int64} (hF : f_X6_mixLoans S p1 = some r) : CTl l D (jtys cI cZ cV) yX6_mixLoans cX6_mixLoans 7 (some .long) rmX6_mixLoans B [.ref (AD 12 7), .long p1] S r S := by
  refine CTl.of [(0, .ref (AD 12 7)), (1, .long p1)] rfl (Nat.le_of_ble_eq_true rfl) (by decide) ⟨rfl, rfl⟩ (fun X e1 e2 e3 e4 e5 e6 e7 h hE => ?_)
  subst e1; subst e2; subst e3; subst e4; subst e5; subst e6
  exact k_X6_mixLoans h hP e7 hE hF
abbrev rmX6_mixPlant : Room := { frames := 4, cells := 0, slots := 0, locals := 89 }
theorem cw_X6_mixPlant : CWv RX6 yX6_mixPlant cX6_mixPlant 7 (some .long) 1 := ⟨q3_238, qs25, q1_1, q3_239, ⟨rfl, by decide +kernel, by decide +kernel, by decide +kernel⟩⟩
set_option maxHeartbeats 4000000 in
set_option maxRecDepth 100000 in
theorem k_X6_mixPlant_93 {X : JX PS} {AD : Nat → Nat → Nat} (h : OK X RX6 cX6_mixPlant rmX6_mixPlant) (hP : IsPool X.cI X.cZ X.cV X.B AD) (hnL : X.nL = 7) {res : Int64} {S : PS} (hE : EXl X cX6_mixPlant res S) : ∀ (n : Nat) (y3 : Int64) (x5 : Int32), f_X6_mixPlant_93 S n y3 x5 = some res → J X 93 [(0, .ref (AD 12 7)), (3, .long y3), (5, .int x5)] [] S := by
  intro n
  induction n with
  | zero =>
    intro y3 x5 hF
    rw [f_X6_mixPlant_93] at hF
    cases hF
  | succ n ih =>
    intro y3 x5 hF
    rw [f_X6_mixPlant_93] at hF
    refine j_iload h 2 rfl dX6_mixPlant_93 ?_
    refine j_aload_n h 0 rfl rfl dX6_mixPlant_95 ?_
    refine j_get h hP.2.2.2.2.2.1 inX6 rfl 0 (by decide) rfl q1_213 rfl dX6_mixPlant_96 ?_
    refine j_get h (hP.1 0 (by decide)).2.2.2.2.1.o inX5 rfl 8 (by decide) rfl q1_138 rfl dX6_mixPlant_99 ?_
    refine j_icmp_ge h 123 (by decide) dX6_mixPlant_102 hF (fun hF => ?_) (fun hF => ?_)
    · refine j_lload_n h 1 rfl rfl dX6_mixPlant_123 ?_
      cases hF
      exact hE _ _ dX6_mixPlant_124
    · refine j_lload_n h 1 rfl rfl dX6_mixPlant_105 ?_
      refine j_aload_n h 0 rfl rfl dX6_mixPlant_106 ?_
      refine j_iload h 2 rfl dX6_mixPlant_107 ?_
      obtain ⟨r_1, hr_1, hF⟩ := bind_row hF
      refine j_callVi h (st := [.long y3]) (S' := S) (c_X6_supply X.l X.D X.cI X.cZ X.cV hP S x5 hr_1) rfl rfl q4_2 cw_X6_supply hP.2.2.2.2.2.1 rfl rfl rfl ⟨rfl, rfl, Nat.le_of_ble_eq_true rfl, Nat.le_of_ble_eq_true rfl⟩ _ rfl (Nat.le_of_ble_eq_true rfl) dX6_mixPlant_109 ?_
      refine j_i2l h dX6_mixPlant_112 ?_
      obtain ⟨r_2, hr_2, hF⟩ := bind_row hF
      refine j_callSl h (st := []) (S' := S) (c_X6_mix X.l X.D X.cI X.cZ X.cV (B := X.B) S y3 r_1.toInt64 hr_2) rfl rfl q3_220 cw_X6_mix rfl ⟨rfl, rfl, Nat.le_of_ble_eq_true rfl, Nat.le_of_ble_eq_true rfl⟩ _ rfl (Nat.le_of_ble_eq_true rfl) dX6_mixPlant_113 ?_
      refine j_lstore_n h hnL [(3, .long r_2), (0, .ref (AD 12 7)), (5, .int x5)] rfl (by decide) rfl dX6_mixPlant_116 ?_
      refine j_iincL hF (fun x_3 ex_3 hF => ?_)
      refine j_iinc h hnL 2 [(5, .int x_3), (3, .long r_2), (0, .ref (AD 12 7))] rfl ex_3 (by decide) (by decide) rfl dX6_mixPlant_117 ?_
      refine j_goto h 93 (by decide) dX6_mixPlant_120 ?_
      exact j_sub [2, 1, 0] rfl (ih _ _ hF)
set_option maxHeartbeats 4000000 in
set_option maxRecDepth 100000 in
theorem k_X6_mixPlant_58 {X : JX PS} {AD : Nat → Nat → Nat} (h : OK X RX6 cX6_mixPlant rmX6_mixPlant) (hP : IsPool X.cI X.cZ X.cV X.B AD) (hnL : X.nL = 7) {res : Int64} {S : PS} {x5 : Int32} {K49 : Int64 → Int32 → Option (Int64)} (hK49 : ∀ (y3 : Int64) (x5 : Int32), K49 y3 x5 = some res → J X 49 [(0, .ref (AD 12 7)), (3, .long y3), (5, .int x5)] [] S) (hE : EXl X cX6_mixPlant res S) : ∀ (n : Nat) (y3 : Int64) (x6 : Int32), f_X6_mixPlant_58 K49 S x5 n y3 x6 = some res → J X 58 [(0, .ref (AD 12 7)), (3, .long y3), (5, .int x5), (6, .int x6)] [] S := by
  intro n
  induction n with
  | zero =>
    intro y3 x6 hF
    rw [f_X6_mixPlant_58] at hF
    cases hF
  | succ n ih =>
    intro y3 x6 hF
    rw [f_X6_mixPlant_58] at hF
    refine j_iload h 3 rfl dX6_mixPlant_58 ?_
    refine j_iconst h (v := 4) (by decide) dX6_mixPlant_60 ?_
    refine j_icmp_gt h 84 (by decide) dX6_mixPlant_61 hF (fun hF => ?_) (fun hF => ?_)
    · refine j_iincL hF (fun x_4 ex_4 hF => ?_)
      refine j_iinc h hnL 2 [(5, .int x_4), (0, .ref (AD 12 7)), (3, .long y3), (6, .int x6)] rfl ex_4 (by decide) (by decide) rfl dX6_mixPlant_84 ?_
      refine j_goto h 49 (by decide) dX6_mixPlant_87 ?_
      exact j_sub [1, 2, 0] rfl (hK49 _ _ hF)
    · refine j_lload_n h 1 rfl rfl dX6_mixPlant_64 ?_
      refine j_aload_n h 0 rfl rfl dX6_mixPlant_65 ?_
      refine j_iload h 2 rfl dX6_mixPlant_66 ?_
      refine j_iload h 3 rfl dX6_mixPlant_68 ?_
      obtain ⟨r_5, hr_5, hF⟩ := bind_row hF
      refine j_callVi h (st := [.long y3]) (S' := S) (c_X6_feeder X.l X.D X.cI X.cZ X.cV hP S x5 x6 hr_5) rfl rfl q4_1 cw_X6_feeder hP.2.2.2.2.2.1 rfl rfl rfl ⟨rfl, rfl, Nat.le_of_ble_eq_true rfl, Nat.le_of_ble_eq_true rfl⟩ _ rfl (Nat.le_of_ble_eq_true rfl) dX6_mixPlant_70 ?_
      refine j_i2l h dX6_mixPlant_73 ?_
      obtain ⟨r_6, hr_6, hF⟩ := bind_row hF
      refine j_callSl h (st := []) (S' := S) (c_X6_mix X.l X.D X.cI X.cZ X.cV (B := X.B) S y3 r_5.toInt64 hr_6) rfl rfl q3_220 cw_X6_mix rfl ⟨rfl, rfl, Nat.le_of_ble_eq_true rfl, Nat.le_of_ble_eq_true rfl⟩ _ rfl (Nat.le_of_ble_eq_true rfl) dX6_mixPlant_74 ?_
      refine j_lstore_n h hnL [(3, .long r_6), (0, .ref (AD 12 7)), (5, .int x5), (6, .int x6)] rfl (by decide) rfl dX6_mixPlant_77 ?_
      refine j_iincL hF (fun x_7 ex_7 hF => ?_)
      refine j_iinc h hnL 3 [(6, .int x_7), (3, .long r_6), (0, .ref (AD 12 7)), (5, .int x5)] rfl ex_7 (by decide) (by decide) rfl dX6_mixPlant_78 ?_
      refine j_goto h 58 (by decide) dX6_mixPlant_81 ?_
      exact j_sub [2, 1, 3, 0] rfl (ih _ _ hF)
set_option maxHeartbeats 4000000 in
set_option maxRecDepth 100000 in
theorem k_X6_mixPlant_49 {X : JX PS} {AD : Nat → Nat → Nat} (h : OK X RX6 cX6_mixPlant rmX6_mixPlant) (hP : IsPool X.cI X.cZ X.cV X.B AD) (hnL : X.nL = 7) {res : Int64} {S : PS} (hE : EXl X cX6_mixPlant res S) : ∀ (n : Nat) (y3 : Int64) (x5 : Int32), f_X6_mixPlant_49 S n y3 x5 = some res → J X 49 [(0, .ref (AD 12 7)), (3, .long y3), (5, .int x5)] [] S := by
  intro n
  induction n with
  | zero =>
    intro y3 x5 hF
    rw [f_X6_mixPlant_49] at hF
    cases hF
  | succ n ih =>
    intro y3 x5 hF
    rw [f_X6_mixPlant_49] at hF
    refine j_iload h 2 rfl dX6_mixPlant_49 ?_
    refine j_iconst h (v := 3) (by decide) dX6_mixPlant_51 ?_
    refine j_icmp_ge h 90 (by decide) dX6_mixPlant_52 hF (fun hF => ?_) (fun hF => ?_)
    · refine j_iconst h (v := 0) (by decide) dX6_mixPlant_90 ?_
      refine j_istore h hnL [(5, .int (0 : Int32)), (0, .ref (AD 12 7)), (3, .long y3)] (by decide) rfl dX6_mixPlant_91 ?_
      exact j_sub [1, 2, 0] rfl (k_X6_mixPlant_93 h hP hnL hE fuel _ _ hF)
    · refine j_iconst h (v := 0) (by decide) dX6_mixPlant_55 ?_
      refine j_istore h hnL [(6, .int (0 : Int32)), (0, .ref (AD 12 7)), (3, .long y3), (5, .int x5)] (by decide) rfl dX6_mixPlant_56 ?_
      exact j_sub [1, 2, 3, 0] rfl (k_X6_mixPlant_58 h hP hnL ih hE fuel _ _ hF)
set_option maxHeartbeats 4000000 in
set_option maxRecDepth 100000 in
theorem k_X6_mixPlant_14 {X : JX PS} {AD : Nat → Nat → Nat} (h : OK X RX6 cX6_mixPlant rmX6_mixPlant) (hP : IsPool X.cI X.cZ X.cV X.B AD) (hnL : X.nL = 7) {res : Int64} {S : PS} {x5 : Int32} {K5 : Int64 → Int32 → Option (Int64)} (hK5 : ∀ (y3 : Int64) (x5 : Int32), K5 y3 x5 = some res → J X 5 [(0, .ref (AD 12 7)), (3, .long y3), (5, .int x5)] [] S) (hE : EXl X cX6_mixPlant res S) : ∀ (n : Nat) (y3 : Int64) (x6 : Int32), f_X6_mixPlant_14 K5 S x5 n y3 x6 = some res → J X 14 [(0, .ref (AD 12 7)), (3, .long y3), (5, .int x5), (6, .int x6)] [] S := by
  intro n
  induction n with
  | zero =>
    intro y3 x6 hF
    rw [f_X6_mixPlant_14] at hF
    cases hF
  | succ n ih =>
    intro y3 x6 hF
    rw [f_X6_mixPlant_14] at hF
    refine j_iload h 3 rfl dX6_mixPlant_14 ?_
    refine j_iconst h (v := 4) (by decide) dX6_mixPlant_16 ?_
    refine j_icmp_gt h 40 (by decide) dX6_mixPlant_17 hF (fun hF => ?_) (fun hF => ?_)
    · refine j_iincL hF (fun x_8 ex_8 hF => ?_)
      refine j_iinc h hnL 2 [(5, .int x_8), (0, .ref (AD 12 7)), (3, .long y3), (6, .int x6)] rfl ex_8 (by decide) (by decide) rfl dX6_mixPlant_40 ?_
      refine j_goto h 5 (by decide) dX6_mixPlant_43 ?_
      exact j_sub [1, 2, 0] rfl (hK5 _ _ hF)
    · refine j_lload_n h 1 rfl rfl dX6_mixPlant_20 ?_
      refine j_aload_n h 0 rfl rfl dX6_mixPlant_21 ?_
      refine j_iload h 2 rfl dX6_mixPlant_22 ?_
      refine j_iload h 3 rfl dX6_mixPlant_24 ?_
      obtain ⟨r_9, hr_9, hF⟩ := bind_row hF
      refine j_callVi h (st := [.long y3]) (S' := S) (c_X6_battery X.l X.D X.cI X.cZ X.cV hP S x5 x6 hr_9) rfl rfl q4_0 cw_X6_battery hP.2.2.2.2.2.1 rfl rfl rfl ⟨rfl, rfl, Nat.le_of_ble_eq_true rfl, Nat.le_of_ble_eq_true rfl⟩ _ rfl (Nat.le_of_ble_eq_true rfl) dX6_mixPlant_26 ?_
      refine j_i2l h dX6_mixPlant_29 ?_
      obtain ⟨r_10, hr_10, hF⟩ := bind_row hF
      refine j_callSl h (st := []) (S' := S) (c_X6_mix X.l X.D X.cI X.cZ X.cV (B := X.B) S y3 r_9.toInt64 hr_10) rfl rfl q3_220 cw_X6_mix rfl ⟨rfl, rfl, Nat.le_of_ble_eq_true rfl, Nat.le_of_ble_eq_true rfl⟩ _ rfl (Nat.le_of_ble_eq_true rfl) dX6_mixPlant_30 ?_
      refine j_lstore_n h hnL [(3, .long r_10), (0, .ref (AD 12 7)), (5, .int x5), (6, .int x6)] rfl (by decide) rfl dX6_mixPlant_33 ?_
      refine j_iincL hF (fun x_11 ex_11 hF => ?_)
      refine j_iinc h hnL 3 [(6, .int x_11), (3, .long r_10), (0, .ref (AD 12 7)), (5, .int x5)] rfl ex_11 (by decide) (by decide) rfl dX6_mixPlant_34 ?_
      refine j_goto h 14 (by decide) dX6_mixPlant_37 ?_
      exact j_sub [2, 1, 3, 0] rfl (ih _ _ hF)
set_option maxHeartbeats 4000000 in
set_option maxRecDepth 100000 in
theorem k_X6_mixPlant_5 {X : JX PS} {AD : Nat → Nat → Nat} (h : OK X RX6 cX6_mixPlant rmX6_mixPlant) (hP : IsPool X.cI X.cZ X.cV X.B AD) (hnL : X.nL = 7) {res : Int64} {S : PS} (hE : EXl X cX6_mixPlant res S) : ∀ (n : Nat) (y3 : Int64) (x5 : Int32), f_X6_mixPlant_5 S n y3 x5 = some res → J X 5 [(0, .ref (AD 12 7)), (3, .long y3), (5, .int x5)] [] S := by
  intro n
  induction n with
  | zero =>
    intro y3 x5 hF
    rw [f_X6_mixPlant_5] at hF
    cases hF
  | succ n ih =>
    intro y3 x5 hF
    rw [f_X6_mixPlant_5] at hF
    refine j_iload h 2 rfl dX6_mixPlant_5 ?_
    refine j_iconst h (v := 2) (by decide) dX6_mixPlant_7 ?_
    refine j_icmp_ge h 46 (by decide) dX6_mixPlant_8 hF (fun hF => ?_) (fun hF => ?_)
    · refine j_iconst h (v := 0) (by decide) dX6_mixPlant_46 ?_
      refine j_istore h hnL [(5, .int (0 : Int32)), (0, .ref (AD 12 7)), (3, .long y3)] (by decide) rfl dX6_mixPlant_47 ?_
      exact j_sub [1, 2, 0] rfl (k_X6_mixPlant_49 h hP hnL hE fuel _ _ hF)
    · refine j_iconst h (v := 0) (by decide) dX6_mixPlant_11 ?_
      refine j_istore h hnL [(6, .int (0 : Int32)), (0, .ref (AD 12 7)), (3, .long y3), (5, .int x5)] (by decide) rfl dX6_mixPlant_12 ?_
      exact j_sub [1, 2, 3, 0] rfl (k_X6_mixPlant_14 h hP hnL ih hE fuel _ _ hF)
set_option maxHeartbeats 4000000 in
set_option maxRecDepth 100000 in
theorem k_X6_mixPlant {X : JX PS} {AD : Nat → Nat → Nat} (h : OK X RX6 cX6_mixPlant rmX6_mixPlant) (hP : IsPool X.cI X.cZ X.cV X.B AD) (hnL : X.nL = 7) {res : Int64} {S : PS} {p1 : Int64} (hE : EXl X cX6_mixPlant res S) (hF : f_X6_mixPlant S p1 = some res) : J X 0 [(0, .ref (AD 12 7)), (1, .long p1)] [] S := by
  rw [f_X6_mixPlant] at hF
  refine j_lload_n h 1 rfl rfl dX6_mixPlant_0 ?_
  refine j_lstore_n h hnL [(3, .long p1), (0, .ref (AD 12 7)), (1, .long p1)] rfl (by decide) rfl dX6_mixPlant_1 ?_
  refine j_iconst h (v := 0) (by decide) dX6_mixPlant_2 ?_
  refine j_istore h hnL [(5, .int (0 : Int32)), (3, .long p1), (0, .ref (AD 12 7)), (1, .long p1)] (by decide) rfl dX6_mixPlant_3 ?_
  exact j_sub [2, 1, 0] rfl (k_X6_mixPlant_5 h hP hnL hE fuel _ _ hF)
theorem c_X6_mixPlant (l : Launch) (D : va_G) (cI cZ cV : ClassId) {B : PS → va_W} {AD : Nat → Nat → Nat} (hP : IsPool cI cZ cV B AD) (S : PS) (p1 : Int64) {r : Int64} (hF : f_X6_mixPlant S p1 = some r) : CTl l D (jtys cI cZ cV) yX6_mixPlant cX6_mixPlant 7 (some .long) rmX6_mixPlant B [.ref (AD 12 7), .long p1] S r S := by
  refine CTl.of [(0, .ref (AD 12 7)), (1, .long p1)] rfl (Nat.le_of_ble_eq_true rfl) (by decide) ⟨rfl, rfl⟩ (fun X e1 e2 e3 e4 e5 e6 e7 h hE => ?_)
  subst e1; subst e2; subst e3; subst e4; subst e5; subst e6
  exact k_X6_mixPlant h hP e7 hE hF
abbrev rmX6_mixAhead : Room := { frames := 5, cells := 0, slots := 0, locals := 115 }
theorem cw_X6_mixAhead : CWv RX6 yX6_mixAhead cX6_mixAhead 6 (some .long) 1 := ⟨q4_5, qs26, q1_1, q4_6, ⟨rfl, by decide +kernel, by decide +kernel, by decide +kernel⟩⟩
set_option maxHeartbeats 4000000 in
set_option maxRecDepth 100000 in
theorem k_X6_mixAhead_25 {X : JX PS} {AD : Nat → Nat → Nat} (h : OK X RX6 cX6_mixAhead rmX6_mixAhead) (hP : IsPool X.cI X.cZ X.cV X.B AD) (hnL : X.nL = 6) {res : Int64 × PS} {S : PS} (hE : EXl X cX6_mixAhead res.1 res.2) : ∀ (n : Nat) (y3 : Int64) (x5 : Int32), f_X6_mixAhead_25 S n y3 x5 = some res → J X 25 [(0, .ref (AD 12 7)), (3, .long y3), (5, .int x5)] [] S := by
  intro n
  induction n with
  | zero =>
    intro y3 x5 hF
    rw [f_X6_mixAhead_25] at hF
    cases hF
  | succ n ih =>
    intro y3 x5 hF
    rw [f_X6_mixAhead_25] at hF
    refine j_iload h 2 rfl dX6_mixAhead_25 ?_
    refine j_iconst h (v := 4) (by decide) dX6_mixAhead_27 ?_
    refine j_icmp_gt h 49 (by decide) dX6_mixAhead_28 hF (fun hF => ?_) (fun hF => ?_)
    · refine j_lload_n h 1 rfl rfl dX6_mixAhead_49 ?_
      cases hF
      exact hE _ _ dX6_mixAhead_50
    · refine j_lload_n h 1 rfl rfl dX6_mixAhead_31 ?_
      refine j_aload_n h 0 rfl rfl dX6_mixAhead_32 ?_
      refine j_iload h 2 rfl dX6_mixAhead_33 ?_
      obtain ⟨r_4, hr_4, hF⟩ := bind_row hF
      refine j_callVi h (st := [.long y3]) (S' := S) (c_X6_seenAhead X.l X.D X.cI X.cZ X.cV hP S x5 hr_4) rfl rfl q3_172 cw_X6_seenAhead hP.2.2.2.2.2.1 rfl rfl rfl ⟨rfl, rfl, Nat.le_of_ble_eq_true rfl, Nat.le_of_ble_eq_true rfl⟩ _ rfl (Nat.le_of_ble_eq_true rfl) dX6_mixAhead_35 ?_
      refine j_i2l h dX6_mixAhead_38 ?_
      obtain ⟨r_5, hr_5, hF⟩ := bind_row hF
      refine j_callSl h (st := []) (S' := S) (c_X6_mix X.l X.D X.cI X.cZ X.cV (B := X.B) S y3 r_4.toInt64 hr_5) rfl rfl q3_220 cw_X6_mix rfl ⟨rfl, rfl, Nat.le_of_ble_eq_true rfl, Nat.le_of_ble_eq_true rfl⟩ _ rfl (Nat.le_of_ble_eq_true rfl) dX6_mixAhead_39 ?_
      refine j_lstore_n h hnL [(3, .long r_5), (0, .ref (AD 12 7)), (5, .int x5)] rfl (by decide) rfl dX6_mixAhead_42 ?_
      refine j_iincL hF (fun x_6 ex_6 hF => ?_)
      refine j_iinc h hnL 2 [(5, .int x_6), (3, .long r_5), (0, .ref (AD 12 7))] rfl ex_6 (by decide) (by decide) rfl dX6_mixAhead_43 ?_
      refine j_goto h 25 (by decide) dX6_mixAhead_46 ?_
      exact j_sub [2, 1, 0] rfl (ih _ _ hF)
set_option maxHeartbeats 4000000 in
set_option maxRecDepth 100000 in
theorem k_X6_mixAhead {X : JX PS} {AD : Nat → Nat → Nat} (h : OK X RX6 cX6_mixAhead rmX6_mixAhead) (hP : IsPool X.cI X.cZ X.cV X.B AD) (hnL : X.nL = 6) {res : Int64 × PS} {S : PS} {p1 : Int64} (hE : EXl X cX6_mixAhead res.1 res.2) (hF : f_X6_mixAhead S p1 = some res) : J X 0 [(0, .ref (AD 12 7)), (1, .long p1)] [] S := by
  rw [f_X6_mixAhead] at hF
  refine j_lload_n h 1 rfl rfl dX6_mixAhead_0 ?_
  refine j_lstore_n h hnL [(3, .long p1), (0, .ref (AD 12 7)), (1, .long p1)] rfl (by decide) rfl dX6_mixAhead_1 ?_
  refine j_aload_n h 1 rfl rfl dX6_mixAhead_2 ?_
  refine j_get h hP.2.2.2.2.2.1 inX6 rfl 1 (by decide) rfl q1_214 rfl dX6_mixAhead_3 ?_
  refine j_aload_n h 1 rfl rfl dX6_mixAhead_6 ?_
  refine j_get h hP.2.2.2.2.2.1 inX6 rfl 0 (by decide) rfl q1_213 rfl dX6_mixAhead_7 ?_
  obtain ⟨r_1, hr_1, hF⟩ := bind_row hF
  refine j_callVv h (st := []) (S' := r_1) (c_X5_copy X.l X.D X.cI X.cZ X.cV hP (by decide) (by decide) S hr_1) rfl rfl q3_103 cw_X5_copy (hP.1 1 (by decide)).2.2.2.2.1.o rfl rfl rfl ⟨rfl, rfl, Nat.le_of_ble_eq_true rfl, Nat.le_of_ble_eq_true rfl⟩ _ rfl (Nat.le_of_ble_eq_true rfl) dX6_mixAhead_10 ?_
  refine j_aload_n h 1 rfl rfl dX6_mixAhead_13 ?_
  refine j_get h hP.2.2.2.2.2.1 inX6 rfl 1 (by decide) rfl q1_214 rfl dX6_mixAhead_14 ?_
  refine j_bipush h (v := 24) (by decide) dX6_mixAhead_17 ?_
  obtain ⟨r_2, hr_2, hF⟩ := bind_row hF
  refine j_callVv h (st := []) (S' := (setV r_1 1 r_2)) (c_X5_passHours X.l X.D X.cI X.cZ X.cV (hP.v r_1 1 (by decide)) (r_1.1 1) (24 : Int32) hr_2) (congrArg X.B (setV_id r_1 1)) rfl q2_192 cw_X5_passHours (hP.1 1 (by decide)).2.2.2.2.1.o rfl rfl rfl ⟨rfl, rfl, Nat.le_of_ble_eq_true rfl, Nat.le_of_ble_eq_true rfl⟩ _ rfl (Nat.le_of_ble_eq_true rfl) dX6_mixAhead_19 ?_
  refine j_letS hF (fun S_3 hF => ?_)
  refine j_iconst h (v := 0) (by decide) dX6_mixAhead_22 ?_
  refine j_istore h hnL [(5, .int (0 : Int32)), (3, .long p1), (0, .ref (AD 12 7)), (1, .long p1)] (by decide) rfl dX6_mixAhead_23 ?_
  exact j_sub [2, 1, 0] rfl (k_X6_mixAhead_25 h hP hnL hE fuel _ _ hF)
theorem c_X6_mixAhead (l : Launch) (D : va_G) (cI cZ cV : ClassId) {B : PS → va_W} {AD : Nat → Nat → Nat} (hP : IsPool cI cZ cV B AD) (S : PS) (p1 : Int64) {r : Int64 × PS} (hF : f_X6_mixAhead S p1 = some r) : CTl l D (jtys cI cZ cV) yX6_mixAhead cX6_mixAhead 6 (some .long) rmX6_mixAhead B [.ref (AD 12 7), .long p1] S r.1 r.2 := by
  refine CTl.of [(0, .ref (AD 12 7)), (1, .long p1)] rfl (Nat.le_of_ble_eq_true rfl) (by decide) ⟨rfl, rfl⟩ (fun X e1 e2 e3 e4 e5 e6 e7 h hE => ?_)
  subst e1; subst e2; subst e3; subst e4; subst e5; subst e6
  exact k_X6_mixAhead h hP e7 hE hF
abbrev rmX6_bitsOf : Room := { frames := 0, cells := 0, slots := 0, locals := 0 }
theorem cw_X6_bitsOf : CWs yX6_bitsOf cX6_bitsOf 8 (some .long) 1 := ⟨q4_9, q1_1, q4_10, ⟨by decide +kernel, by decide +kernel, by decide +kernel⟩⟩
set_option maxHeartbeats 4000000 in
set_option maxRecDepth 100000 in
theorem k_X6_bitsOf_87 {τ : Type} {X : JX τ} (h : OK X RX6 cX6_bitsOf rmX6_bitsOf) (hnL : X.nL = 8) {res : Int64} {S : τ} {d2 : UInt64} {y4 : Int64} (hE : EXl X cX6_bitsOf res S) (hF : f_X6_bitsOf_87 d2 y4 = some res) : J X 87 [(2, .double d2), (4, .long y4)] [] S := by
  rw [f_X6_bitsOf_87] at hF
  refine j_dload_n h 0 rfl rfl dX6_bitsOf_87 ?_
  refine j_dconst1 h dX6_bitsOf_88 ?_
  obtain ⟨hb_1, hF⟩ := bnd_row hF
  refine j_dsub h (n64_v hb_1) dX6_bitsOf_89 ?_
  refine j_ldc2d h (v := 4841369599423283200) q4_13 dX6_bitsOf_90 ?_
  obtain ⟨hb_2, hF⟩ := bnd_row hF
  refine j_dmul h (n64_v hb_2) dX6_bitsOf_93 ?_
  refine j_d2l h dX6_bitsOf_94 ?_
  refine j_letl hF (fun y_3 hF => ?_)
  refine j_lstore h hnL [(6, .long y_3), (2, .double d2), (4, .long y4)] (by decide) rfl dX6_bitsOf_95 ?_
  refine j_lload h 2 rfl dX6_bitsOf_97 ?_
  refine j_bipush h (v := 52) (by decide) dX6_bitsOf_99 ?_
  refine j_lshl h dX6_bitsOf_101 ?_
  refine j_lload h 0 rfl dX6_bitsOf_102 ?_
  refine j_lor h dX6_bitsOf_104 ?_
  cases hF
  exact hE _ _ dX6_bitsOf_105
set_option maxHeartbeats 4000000 in
set_option maxRecDepth 100000 in
theorem k_X6_bitsOf_55 {τ : Type} {X : JX τ} (h : OK X RX6 cX6_bitsOf rmX6_bitsOf) (hnL : X.nL = 8) {res : Int64} {S : τ} (hE : EXl X cX6_bitsOf res S) : ∀ (n : Nat) (d2 : UInt64) (y4 : Int64) (x6 : Int32), f_X6_bitsOf_55 n d2 y4 x6 = some res → J X 55 [(2, .double d2), (4, .long y4), (6, .int x6)] [] S := by
  intro n
  induction n with
  | zero =>
    intro d2 y4 x6 hF
    rw [f_X6_bitsOf_55] at hF
    cases hF
  | succ n ih =>
    intro d2 y4 x6 hF
    rw [f_X6_bitsOf_55] at hF
    refine j_iload h 2 rfl dX6_bitsOf_55 ?_
    refine j_sipush h (v := 1100) (by decide) dX6_bitsOf_57 ?_
    refine j_icmp_ge h 87 (by decide) dX6_bitsOf_60 hF (fun hF => ?_) (fun hF => ?_)
    · exact j_sub [0, 1] rfl (k_X6_bitsOf_87 h hnL hE hF)
    · refine j_dload_n h 0 rfl rfl dX6_bitsOf_63 ?_
      refine j_dconst1 h dX6_bitsOf_64 ?_
      refine j_dcmp h dX6_bitsOf_65 ?_
      refine j_if_ge h 87 (by decide) dX6_bitsOf_66 hF (fun hF => ?_) (fun hF => ?_)
      · exact j_sub [0, 1] rfl (k_X6_bitsOf_87 h hnL hE hF)
      · refine j_dload_n h 0 rfl rfl dX6_bitsOf_69 ?_
        refine j_ldc2d h (v := 4611686018427387904) q4_12 dX6_bitsOf_70 ?_
        obtain ⟨hb_4, hF⟩ := bnd_row hF
        refine j_dmul h (n64_v hb_4) dX6_bitsOf_73 ?_
        refine j_letd hF (fun d_5 hF => ?_)
        refine j_dstore_n h hnL [(2, .double d_5), (4, .long y4), (6, .int x6)] rfl (by decide) rfl dX6_bitsOf_74 ?_
        refine j_lload h 1 rfl dX6_bitsOf_75 ?_
        refine j_lconst h (v := 1) (by decide) dX6_bitsOf_77 ?_
        refine j_lsub h dX6_bitsOf_78 ?_
        refine j_letl hF (fun y_6 hF => ?_)
        refine j_lstore h hnL [(4, .long y_6), (2, .double d_5), (6, .int x6)] (by decide) rfl dX6_bitsOf_79 ?_
        refine j_iincL hF (fun x_7 ex_7 hF => ?_)
        refine j_iinc h hnL 2 [(6, .int x_7), (4, .long y_6), (2, .double d_5)] rfl ex_7 (by decide) (by decide) rfl dX6_bitsOf_81 ?_
        refine j_goto h 55 (by decide) dX6_bitsOf_84 ?_
        exact j_sub [2, 1, 0] rfl (ih _ _ _ hF)
set_option maxHeartbeats 4000000 in
set_option maxRecDepth 100000 in
theorem k_X6_bitsOf_52 {τ : Type} {X : JX τ} (h : OK X RX6 cX6_bitsOf rmX6_bitsOf) (hnL : X.nL = 8) {res : Int64} {S : τ} {d2 : UInt64} {y4 : Int64} (hE : EXl X cX6_bitsOf res S) (hF : f_X6_bitsOf_52 d2 y4 = some res) : J X 52 [(2, .double d2), (4, .long y4)] [] S := by
  rw [f_X6_bitsOf_52] at hF
  refine j_iconst h (v := 0) (by decide) dX6_bitsOf_52 ?_
  refine j_istore h hnL [(6, .int (0 : Int32)), (2, .double d2), (4, .long y4)] (by decide) rfl dX6_bitsOf_53 ?_
  exact j_sub [1, 2, 0] rfl (k_X6_bitsOf_55 h hnL hE fuel _ _ _ hF)
set_option maxHeartbeats 4000000 in
set_option maxRecDepth 100000 in
theorem k_X6_bitsOf_18 {τ : Type} {X : JX τ} (h : OK X RX6 cX6_bitsOf rmX6_bitsOf) (hnL : X.nL = 8) {res : Int64} {S : τ} (hE : EXl X cX6_bitsOf res S) : ∀ (n : Nat) (d2 : UInt64) (y4 : Int64) (x6 : Int32), f_X6_bitsOf_18 n d2 y4 x6 = some res → J X 18 [(2, .double d2), (4, .long y4), (6, .int x6)] [] S := by
  intro n
  induction n with
  | zero =>
    intro d2 y4 x6 hF
    rw [f_X6_bitsOf_18] at hF
    cases hF
  | succ n ih =>
    intro d2 y4 x6 hF
    rw [f_X6_bitsOf_18] at hF
    refine j_iload h 2 rfl dX6_bitsOf_18 ?_
    refine j_sipush h (v := 1100) (by decide) dX6_bitsOf_20 ?_
    refine j_icmp_ge h 52 (by decide) dX6_bitsOf_23 hF (fun hF => ?_) (fun hF => ?_)
    · exact j_sub [0, 1] rfl (k_X6_bitsOf_52 h hnL hE hF)
    · refine j_dload_n h 0 rfl rfl dX6_bitsOf_26 ?_
      refine j_ldc2d h (v := 4611686018427387904) q4_12 dX6_bitsOf_27 ?_
      refine j_dcmp h dX6_bitsOf_30 ?_
      refine j_if_lt h 52 (by decide) dX6_bitsOf_31 hF (fun hF => ?_) (fun hF => ?_)
      · exact j_sub [0, 1] rfl (k_X6_bitsOf_52 h hnL hE hF)
      · refine j_dload_n h 0 rfl rfl dX6_bitsOf_34 ?_
        refine j_ldc2d h (v := 4611686018427387904) q4_12 dX6_bitsOf_35 ?_
        obtain ⟨hb_8, hF⟩ := bnd_row hF
        refine j_ddiv h (n64_v hb_8) dX6_bitsOf_38 ?_
        refine j_letd hF (fun d_9 hF => ?_)
        refine j_dstore_n h hnL [(2, .double d_9), (4, .long y4), (6, .int x6)] rfl (by decide) rfl dX6_bitsOf_39 ?_
        refine j_lload h 1 rfl dX6_bitsOf_40 ?_
        refine j_lconst h (v := 1) (by decide) dX6_bitsOf_42 ?_
        refine j_ladd h dX6_bitsOf_43 ?_
        refine j_letl hF (fun y_10 hF => ?_)
        refine j_lstore h hnL [(4, .long y_10), (2, .double d_9), (6, .int x6)] (by decide) rfl dX6_bitsOf_44 ?_
        refine j_iincL hF (fun x_11 ex_11 hF => ?_)
        refine j_iinc h hnL 2 [(6, .int x_11), (4, .long y_10), (2, .double d_9)] rfl ex_11 (by decide) (by decide) rfl dX6_bitsOf_46 ?_
        refine j_goto h 18 (by decide) dX6_bitsOf_49 ?_
        exact j_sub [2, 1, 0] rfl (ih _ _ _ hF)
set_option maxHeartbeats 4000000 in
set_option maxRecDepth 100000 in
theorem k_X6_bitsOf {τ : Type} {X : JX τ} (h : OK X RX6 cX6_bitsOf rmX6_bitsOf) (hnL : X.nL = 8) {res : Int64} {S : τ} {p1 : UInt64} (hE : EXl X cX6_bitsOf res S) (hF : f_X6_bitsOf p1 = some res) : J X 0 [(0, .double p1)] [] S := by
  rw [f_X6_bitsOf] at hF
  refine j_dload_n h 0 rfl rfl dX6_bitsOf_0 ?_
  refine j_dconst0 h dX6_bitsOf_1 ?_
  refine j_dcmp h dX6_bitsOf_2 ?_
  refine j_if_gt h 8 (by decide) dX6_bitsOf_3 hF (fun hF => ?_) (fun hF => ?_)
  · refine j_dload_n h 0 rfl rfl dX6_bitsOf_8 ?_
    refine j_dstore_n h hnL [(2, .double p1), (0, .double p1)] rfl (by decide) rfl dX6_bitsOf_9 ?_
    refine j_ldc2 h (v := 1023) q4_11 dX6_bitsOf_10 ?_
    refine j_lstore h hnL [(4, .long (1023 : Int64)), (2, .double p1), (0, .double p1)] (by decide) rfl dX6_bitsOf_13 ?_
    refine j_iconst h (v := 0) (by decide) dX6_bitsOf_15 ?_
    refine j_istore h hnL [(6, .int (0 : Int32)), (4, .long (1023 : Int64)), (2, .double p1), (0, .double p1)] (by decide) rfl dX6_bitsOf_16 ?_
    exact j_sub [2, 1, 0] rfl (k_X6_bitsOf_18 h hnL hE fuel _ _ _ hF)
  · refine j_lconst h (v := 0) (by decide) dX6_bitsOf_6 ?_
    cases hF
    exact hE _ _ dX6_bitsOf_7
theorem c_X6_bitsOf (l : Launch) (D : va_G) (cI cZ cV : ClassId) {τ : Type} {B : τ → va_W} (S : τ) (p1 : UInt64) {r : Int64} (hF : f_X6_bitsOf p1 = some r) : CTl l D (jtys cI cZ cV) yX6_bitsOf cX6_bitsOf 8 (some .long) rmX6_bitsOf B [.double p1] S r S := by
  refine CTl.of [(0, .double p1)] rfl (Nat.le_of_ble_eq_true rfl) (by decide) ⟨rfl, rfl⟩ (fun X e1 e2 e3 e4 e5 e6 e7 h hE => ?_)
  subst e1; subst e2; subst e3; subst e4; subst e5; subst e6
  exact k_X6_bitsOf h e7 hE hF
abbrev rmX6_mixText : Room := { frames := 1, cells := 0, slots := 0, locals := 23 }
theorem cw_X6_mixText : CWv RX6 yX6_mixText cX6_mixText 6 (some .long) 1 := ⟨q4_16, qs27, q1_1, q4_17, ⟨rfl, by decide +kernel, by decide +kernel, by decide +kernel⟩⟩
set_option maxHeartbeats 4000000 in
set_option maxRecDepth 100000 in
theorem k_X6_mixText_16 {X : JX PS} {AD : Nat → Nat → Nat} (h : OK X RX6 cX6_mixText rmX6_mixText) (hP : IsPool X.cI X.cZ X.cV X.B AD) (hnL : X.nL = 6) {res : Int64} {S : PS} (hE : EXl X cX6_mixText res S) : ∀ (n : Nat) (y3 : Int64) (x5 : Int32), f_X6_mixText_16 S n y3 x5 = some res → J X 16 [(0, .ref (AD 12 7)), (3, .long y3), (5, .int x5)] [] S := by
  intro n
  induction n with
  | zero =>
    intro y3 x5 hF
    rw [f_X6_mixText_16] at hF
    cases hF
  | succ n ih =>
    intro y3 x5 hF
    rw [f_X6_mixText_16] at hF
    refine j_iload h 2 rfl dX6_mixText_16 ?_
    refine j_aload_n h 0 rfl rfl dX6_mixText_18 ?_
    refine j_get h hP.2.2.2.2.2.1 inX6 rfl 5 (by decide) rfl q1_218 rfl dX6_mixText_19 ?_
    refine j_get h hP.2.1.2.1.o inX3 rfl 0 (by decide) rfl q1_190 rfl dX6_mixText_22 ?_
    refine j_icmp_ge h 50 (by decide) dX6_mixText_25 hF (fun hF => ?_) (fun hF => ?_)
    · refine j_lload_n h 1 rfl rfl dX6_mixText_50 ?_
      cases hF
      exact hE _ _ dX6_mixText_51
    · refine j_lload_n h 1 rfl rfl dX6_mixText_28 ?_
      refine j_aload_n h 0 rfl rfl dX6_mixText_29 ?_
      refine j_get h hP.2.2.2.2.2.1 inX6 rfl 5 (by decide) rfl q1_218 rfl dX6_mixText_30 ?_
      refine j_get h hP.2.1.2.1.o inX3 rfl 1 (by decide) rfl q1_192 rfl dX6_mixText_33 ?_
      refine j_iload h 2 rfl dX6_mixText_36 ?_
      obtain ⟨hb_2, hF⟩ := bnd_row hF
      refine ja_iald h (get := fun S => S.1 12) (put := fun S v => setV S 12 v) (hP.2.1.1 0 (by decide)) hb_2 dX6_mixText_38 ?_
      refine j_i2l h dX6_mixText_39 ?_
      obtain ⟨r_3, hr_3, hF⟩ := bind_row hF
      refine j_callSl h (st := []) (S' := S) (c_X6_mix X.l X.D X.cI X.cZ X.cV (B := X.B) S y3 ((rd (S.1 12) 0 x5).toInt64) hr_3) rfl rfl q3_220 cw_X6_mix rfl ⟨rfl, rfl, Nat.le_of_ble_eq_true rfl, Nat.le_of_ble_eq_true rfl⟩ _ rfl (Nat.le_of_ble_eq_true rfl) dX6_mixText_40 ?_
      refine j_lstore_n h hnL [(3, .long r_3), (0, .ref (AD 12 7)), (5, .int x5)] rfl (by decide) rfl dX6_mixText_43 ?_
      refine j_iincL hF (fun x_4 ex_4 hF => ?_)
      refine j_iinc h hnL 2 [(5, .int x_4), (3, .long r_3), (0, .ref (AD 12 7))] rfl ex_4 (by decide) (by decide) rfl dX6_mixText_44 ?_
      refine j_goto h 16 (by decide) dX6_mixText_47 ?_
      exact j_sub [2, 1, 0] rfl (ih _ _ hF)
set_option maxHeartbeats 4000000 in
set_option maxRecDepth 100000 in
theorem k_X6_mixText {X : JX PS} {AD : Nat → Nat → Nat} (h : OK X RX6 cX6_mixText rmX6_mixText) (hP : IsPool X.cI X.cZ X.cV X.B AD) (hnL : X.nL = 6) {res : Int64} {S : PS} {p1 : Int64} (hE : EXl X cX6_mixText res S) (hF : f_X6_mixText S p1 = some res) : J X 0 [(0, .ref (AD 12 7)), (1, .long p1)] [] S := by
  rw [f_X6_mixText] at hF
  refine j_lload_n h 1 rfl rfl dX6_mixText_0 ?_
  refine j_aload_n h 0 rfl rfl dX6_mixText_1 ?_
  refine j_get h hP.2.2.2.2.2.1 inX6 rfl 5 (by decide) rfl q1_218 rfl dX6_mixText_2 ?_
  refine j_get h hP.2.1.2.1.o inX3 rfl 0 (by decide) rfl q1_190 rfl dX6_mixText_5 ?_
  refine j_i2l h dX6_mixText_8 ?_
  obtain ⟨r_1, hr_1, hF⟩ := bind_row hF
  refine j_callSl h (st := []) (S' := S) (c_X6_mix X.l X.D X.cI X.cZ X.cV (B := X.B) S p1 (((S.1 12) 2 0).toInt64) hr_1) rfl rfl q3_220 cw_X6_mix rfl ⟨rfl, rfl, Nat.le_of_ble_eq_true rfl, Nat.le_of_ble_eq_true rfl⟩ _ rfl (Nat.le_of_ble_eq_true rfl) dX6_mixText_9 ?_
  refine j_lstore_n h hnL [(3, .long r_1), (0, .ref (AD 12 7)), (1, .long p1)] rfl (by decide) rfl dX6_mixText_12 ?_
  refine j_iconst h (v := 0) (by decide) dX6_mixText_13 ?_
  refine j_istore h hnL [(5, .int (0 : Int32)), (3, .long r_1), (0, .ref (AD 12 7)), (1, .long p1)] (by decide) rfl dX6_mixText_14 ?_
  exact j_sub [2, 1, 0] rfl (k_X6_mixText_16 h hP hnL hE fuel _ _ hF)
theorem c_X6_mixText (l : Launch) (D : va_G) (cI cZ cV : ClassId) {B : PS → va_W} {AD : Nat → Nat → Nat} (hP : IsPool cI cZ cV B AD) (S : PS) (p1 : Int64) {r : Int64} (hF : f_X6_mixText S p1 = some r) : CTl l D (jtys cI cZ cV) yX6_mixText cX6_mixText 6 (some .long) rmX6_mixText B [.ref (AD 12 7), .long p1] S r S := by
  refine CTl.of [(0, .ref (AD 12 7)), (1, .long p1)] rfl (Nat.le_of_ble_eq_true rfl) (by decide) ⟨rfl, rfl⟩ (fun X e1 e2 e3 e4 e5 e6 e7 h hE => ?_)
  subst e1; subst e2; subst e3; subst e4; subst e5; subst e6
  exact k_X6_mixText h hP e7 hE hF
abbrev rmX6_digest : Room := { frames := 6, cells := 0, slots := 0, locals := 140 }
theorem cw_X6_digest : CWv RX6 yX6_digest cX6_digest 3 (some .long) 0 := ⟨q3_211, q3_212, q1_1, q3_213, ⟨rfl, by decide +kernel, by decide +kernel, by decide +kernel⟩⟩
set_option maxHeartbeats 4000000 in
set_option maxRecDepth 100000 in
theorem k_X6_digest {X : JX PS} {AD : Nat → Nat → Nat} (h : OK X RX6 cX6_digest rmX6_digest) (hP : IsPool X.cI X.cZ X.cV X.B AD) (hnL : X.nL = 3) {res : Int64 × PS} {S : PS} (hE : EXl X cX6_digest res.1 res.2) (hF : f_X6_digest S = some res) : J X 0 [(0, .ref (AD 12 7))] [] S := by
  rw [f_X6_digest] at hF
  refine j_ldc2 h (v := 2111) q3_214 dX6_digest_0 ?_
  refine j_lstore_n h hnL [(1, .long (2111 : Int64)), (0, .ref (AD 12 7))] rfl (by decide) rfl dX6_digest_3 ?_
  refine j_aload_n h 1 rfl rfl dX6_digest_4 ?_
  refine j_lload_n h 0 rfl rfl dX6_digest_5 ?_
  obtain ⟨r_1, hr_1, hF⟩ := bind_row hF
  refine j_callVl h (st := []) (S' := S) (c_X6_mixTotals X.l X.D X.cI X.cZ X.cV hP S (2111 : Int64) hr_1) rfl rfl q3_215 cw_X6_mixTotals hP.2.2.2.2.2.1 rfl rfl rfl ⟨rfl, rfl, Nat.le_of_ble_eq_true rfl, Nat.le_of_ble_eq_true rfl⟩ _ rfl (Nat.le_of_ble_eq_true rfl) dX6_digest_6 ?_
  refine j_lstore_n h hnL [(1, .long r_1), (0, .ref (AD 12 7))] rfl (by decide) rfl dX6_digest_9 ?_
  refine j_aload_n h 1 rfl rfl dX6_digest_10 ?_
  refine j_lload_n h 0 rfl rfl dX6_digest_11 ?_
  obtain ⟨r_2, hr_2, hF⟩ := bind_row hF
  refine j_callVl h (st := []) (S' := S) (c_X6_mixHouses X.l X.D X.cI X.cZ X.cV hP S r_1 hr_2) rfl rfl q3_226 cw_X6_mixHouses hP.2.2.2.2.2.1 rfl rfl rfl ⟨rfl, rfl, Nat.le_of_ble_eq_true rfl, Nat.le_of_ble_eq_true rfl⟩ _ rfl (Nat.le_of_ble_eq_true rfl) dX6_digest_12 ?_
  refine j_lstore_n h hnL [(1, .long r_2), (0, .ref (AD 12 7))] rfl (by decide) rfl dX6_digest_15 ?_
  refine j_aload_n h 1 rfl rfl dX6_digest_16 ?_
  refine j_lload_n h 0 rfl rfl dX6_digest_17 ?_
  obtain ⟨r_3, hr_3, hF⟩ := bind_row hF
  refine j_callVl h (st := []) (S' := S) (c_X6_mixLoans X.l X.D X.cI X.cZ X.cV hP S r_2 hr_3) rfl rfl q3_231 cw_X6_mixLoans hP.2.2.2.2.2.1 rfl rfl rfl ⟨rfl, rfl, Nat.le_of_ble_eq_true rfl, Nat.le_of_ble_eq_true rfl⟩ _ rfl (Nat.le_of_ble_eq_true rfl) dX6_digest_18 ?_
  refine j_lstore_n h hnL [(1, .long r_3), (0, .ref (AD 12 7))] rfl (by decide) rfl dX6_digest_21 ?_
  refine j_aload_n h 1 rfl rfl dX6_digest_22 ?_
  refine j_lload_n h 0 rfl rfl dX6_digest_23 ?_
  obtain ⟨r_4, hr_4, hF⟩ := bind_row hF
  refine j_callVl h (st := []) (S' := S) (c_X6_mixPlant X.l X.D X.cI X.cZ X.cV hP S r_3 hr_4) rfl rfl q3_236 cw_X6_mixPlant hP.2.2.2.2.2.1 rfl rfl rfl ⟨rfl, rfl, Nat.le_of_ble_eq_true rfl, Nat.le_of_ble_eq_true rfl⟩ _ rfl (Nat.le_of_ble_eq_true rfl) dX6_digest_24 ?_
  refine j_lstore_n h hnL [(1, .long r_4), (0, .ref (AD 12 7))] rfl (by decide) rfl dX6_digest_27 ?_
  refine j_aload_n h 1 rfl rfl dX6_digest_28 ?_
  refine j_lload_n h 0 rfl rfl dX6_digest_29 ?_
  obtain ⟨r_5, hr_5, hF⟩ := bind_row hF
  refine j_callVl h (st := []) (S' := r_5.2) (c_X6_mixAhead X.l X.D X.cI X.cZ X.cV hP S r_4 hr_5) rfl rfl q4_3 cw_X6_mixAhead hP.2.2.2.2.2.1 rfl rfl rfl ⟨rfl, rfl, Nat.le_of_ble_eq_true rfl, Nat.le_of_ble_eq_true rfl⟩ _ rfl (Nat.le_of_ble_eq_true rfl) dX6_digest_30 ?_
  refine j_lstore_n h hnL [(1, .long r_5.1), (0, .ref (AD 12 7))] rfl (by decide) rfl dX6_digest_33 ?_
  refine j_lload_n h 0 rfl rfl dX6_digest_34 ?_
  refine j_aload_n h 1 rfl rfl dX6_digest_35 ?_
  obtain ⟨r_6, hr_6, hF⟩ := bind_row hF
  refine j_callVd h (st := [.long r_5.1]) (S' := r_5.2) (c_X6_met X.l X.D X.cI X.cZ X.cV hP r_5.2 hr_6) rfl rfl q4_7 cw_X6_met hP.2.2.2.2.2.1 rfl rfl rfl ⟨rfl, rfl, Nat.le_of_ble_eq_true rfl, Nat.le_of_ble_eq_true rfl⟩ _ rfl (Nat.le_of_ble_eq_true rfl) dX6_digest_36 ?_
  obtain ⟨r_7, hr_7, hF⟩ := bind_row hF
  refine j_callSl h (st := [.long r_5.1]) (S' := r_5.2) (c_X6_bitsOf X.l X.D X.cI X.cZ X.cV (B := X.B) r_5.2 r_6 hr_7) rfl rfl q4_8 cw_X6_bitsOf rfl ⟨rfl, rfl, Nat.le_of_ble_eq_true rfl, Nat.le_of_ble_eq_true rfl⟩ _ rfl (Nat.le_of_ble_eq_true rfl) dX6_digest_39 ?_
  obtain ⟨r_8, hr_8, hF⟩ := bind_row hF
  refine j_callSl h (st := []) (S' := r_5.2) (c_X6_mix X.l X.D X.cI X.cZ X.cV (B := X.B) r_5.2 r_5.1 r_7 hr_8) rfl rfl q3_220 cw_X6_mix rfl ⟨rfl, rfl, Nat.le_of_ble_eq_true rfl, Nat.le_of_ble_eq_true rfl⟩ _ rfl (Nat.le_of_ble_eq_true rfl) dX6_digest_42 ?_
  refine j_lstore_n h hnL [(1, .long r_8), (0, .ref (AD 12 7))] rfl (by decide) rfl dX6_digest_45 ?_
  refine j_aload_n h 1 rfl rfl dX6_digest_46 ?_
  refine j_lload_n h 0 rfl rfl dX6_digest_47 ?_
  obtain ⟨r_9, hr_9, hF⟩ := bind_row hF
  refine j_callVl h (st := []) (S' := r_5.2) (c_X6_mixText X.l X.D X.cI X.cZ X.cV hP r_5.2 r_8 hr_9) rfl rfl q4_14 cw_X6_mixText hP.2.2.2.2.2.1 rfl rfl rfl ⟨rfl, rfl, Nat.le_of_ble_eq_true rfl, Nat.le_of_ble_eq_true rfl⟩ _ rfl (Nat.le_of_ble_eq_true rfl) dX6_digest_48 ?_
  cases hF
  exact hE _ _ dX6_digest_51
theorem c_X6_digest (l : Launch) (D : va_G) (cI cZ cV : ClassId) {B : PS → va_W} {AD : Nat → Nat → Nat} (hP : IsPool cI cZ cV B AD) (S : PS) {r : Int64 × PS} (hF : f_X6_digest S = some r) : CTl l D (jtys cI cZ cV) yX6_digest cX6_digest 3 (some .long) rmX6_digest B [.ref (AD 12 7)] S r.1 r.2 := by
  refine CTl.of [(0, .ref (AD 12 7))] rfl (Nat.le_of_ble_eq_true rfl) (by decide) ⟨rfl, rfl⟩ (fun X e1 e2 e3 e4 e5 e6 e7 h hE => ?_)
  subst e1; subst e2; subst e3; subst e4; subst e5; subst e6
  exact k_X6_digest h hP e7 hE hF