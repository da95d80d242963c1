abbrev rmX6_run : Room := { frames := 5, cells := 0, slots := 0, locals := 115 }
theorem cw_X6_run : CWv RX6 yX6_run cX6_run 3 (some .int) 1 := ⟨q2_181, q2_182, q1_1, q2_183, ⟨rfl, by decide +kernel, by decide +kernel, by decide +kernel⟩⟩
set_option maxHeartbeats 4000000 in
set_option maxRecDepth 100000 in
theorem k_X6_run {X : JX PS} {AD : Nat → Nat → Nat} (h : OK X RX6 cX6_run rmX6_run) (hP : IsPool X.cI X.cZ X.cV X.B AD) (hnL : X.nL = 3) {res : Int32 × PS} {S : PS} {p1 : Int32} (hE : EXi X cX6_run res.1 res.2) (hF : f_X6_run S p1 = some res) : J X 0 [(0, .ref (AD 12 7)), (1, .int p1)] [] S := by
  rw [f_X6_run] at hF
  refine j_iload_n h 1 rfl rfl dX6_run_0 ?_
  refine j_iconst h (v := 1) (by decide) dX6_run_1 ?_
  refine j_bipush h (v := 100) (by decide) dX6_run_2 ?_
  obtain ⟨r_1, hr_1, hF⟩ := bind_row hF
  refine j_callSz h (st := []) (S' := S) (c_X6_within X.l X.D X.cI X.cZ X.cV (B := X.B) S p1 (1 : Int32) (100 : Int32) hr_1) rfl rfl q1_236 cw_X6_within rfl ⟨rfl, rfl, Nat.le_of_ble_eq_true rfl, Nat.le_of_ble_eq_true rfl⟩ _ rfl (Nat.le_of_ble_eq_true rfl) dX6_run_4 (fun hz_r_1 => ?_)
  refine j_if_ne h 13 (by decide) dX6_run_7 hF (fun hF => ?_) (fun hF => ?_)
  · refine j_ldc h (v := -1000002) q1_239 dX6_run_10 ?_
    cases hF
    exact hE _ _ dX6_run_12
  · refine j_aload_n h 0 rfl rfl dX6_run_13 ?_
    refine j_get h hP.2.2.2.2.2.1 inX6 rfl 2 (by decide) rfl q1_202 rfl dX6_run_14 ?_
    refine j_aload_n h 0 rfl rfl dX6_run_17 ?_
    refine j_get h hP.2.2.2.2.2.1 inX6 rfl 0 (by decide) rfl q1_200 rfl dX6_run_18 ?_
    obtain ⟨r_2, hr_2, hF⟩ := bind_row hF
    refine j_callVv h (st := []) (S' := r_2) (c_X1_record X.l X.D X.cI X.cZ X.cV hP (by decide) S hr_2) rfl rfl q2_1 cw_X1_record hP.2.2.2.1.o rfl rfl rfl ⟨rfl, rfl, Nat.le_of_ble_eq_true rfl, Nat.le_of_ble_eq_true rfl⟩ _ rfl (Nat.le_of_ble_eq_true rfl) dX6_run_21 ?_
    refine j_aload_n h 0 rfl rfl dX6_run_24 ?_
    refine j_get h hP.2.2.2.2.2.1 inX6 rfl 0 (by decide) rfl q1_200 rfl dX6_run_25 ?_
    refine j_get h (hP.1 0 (by decide)).2.2.2.2.1.o inX5 rfl 4 (by decide) rfl q1_126 rfl dX6_run_28 ?_
    refine j_iconst h (v := 1) (by decide) dX6_run_31 ?_
    obtain ⟨hb_3, hF⟩ := bnd_row hF
    refine ja_iald h (get := fun S => S.1 0) (put := fun S v => setV S 0 v) ((hP.1 0 (by decide)).1 18 (by decide)) hb_3 dX6_run_32 ?_
    refine j_let hF (fun x_4 hF => ?_)
    refine j_istore_n h hnL [(2, .int x_4), (0, .ref (AD 12 7)), (1, .int p1)] rfl (by decide) rfl dX6_run_33 ?_
    refine j_aload_n h 1 rfl rfl dX6_run_34 ?_
    refine j_get h hP.2.2.2.2.2.1 inX6 rfl 0 (by decide) rfl q1_200 rfl dX6_run_35 ?_
    refine j_iload_n h 2 rfl rfl dX6_run_38 ?_
    obtain ⟨r_5, hr_5, hF⟩ := bind_row hF
    refine j_callVv h (st := []) (S' := (setV r_2 0 r_5)) (c_X5_passHours X.l X.D X.cI X.cZ X.cV (hP.v r_2 0 (by decide)) (r_2.1 0) p1 hr_5) (congrArg X.B (setV_id r_2 0)) rfl q2_184 cw_X5_passHours (hP.1 0 (by decide)).2.2.2.2.1.o rfl rfl rfl ⟨rfl, rfl, Nat.le_of_ble_eq_true rfl, Nat.le_of_ble_eq_true rfl⟩ _ rfl (Nat.le_of_ble_eq_true rfl) dX6_run_39 ?_
    refine j_letS hF (fun S_6 hF => ?_)
    refine j_aload_n h 1 rfl rfl dX6_run_42 ?_
    refine j_get h hP.2.2.2.2.2.1 inX6 rfl 0 (by decide) rfl q1_200 rfl dX6_run_43 ?_
    refine j_get h (hP.1 0 (by decide)).2.2.2.2.1.o inX5 rfl 4 (by decide) rfl q1_126 rfl dX6_run_46 ?_
    refine j_iconst h (v := 1) (by decide) dX6_run_49 ?_
    obtain ⟨hb_7, hF⟩ := bnd_row hF
    refine ja_iald h (get := fun S => S.1 0) (put := fun S v => setV S 0 v) ((hP.1 0 (by decide)).1 18 (by decide)) hb_7 dX6_run_50 ?_
    refine j_iload_n h 0 rfl rfl dX6_run_51 ?_
    refine j_isub h dX6_run_52 ?_
    cases hF
    exact hE _ _ dX6_run_53
theorem c_X6_run (l : Launch) (D : va_G) (cI cZ cV : ClassId) {B : PS → va_W} {AD : Nat → Nat → Nat} (hP : IsPool cI cZ cV B AD) (S : PS) (p1 : Int32) {r : Int32 × PS} (hF : f_X6_run S p1 = some r) : CTi l D (jtys cI cZ cV) yX6_run cX6_run 3 (some .int) rmX6_run B [.ref (AD 12 7), .int p1] S r.1 r.2 := by
  refine CTi.of [(0, .ref (AD 12 7)), (1, .int p1)] rfl (Nat.le_of_ble_eq_true rfl) (by decide) ⟨rfl, rfl⟩ (fun X e1 e2 e3 e4 e5 e6 e7 h hE => ?_)
  subst e1; subst e2; subst e3; subst e4; subst e5; subst e6
  exact k_X6_run h hP e7 hE hF
abbrev rmX6_house : Room := { frames := 2, cells := 0, slots := 0, locals := 45 }
theorem cw_X6_house : CWv RX6 yX6_house cX6_house 3 (some .int) 2 := ⟨q3_25, q3_26, q1_1, q3_27, ⟨rfl, by decide +kernel, by decide +kernel, by decide +kernel⟩⟩
set_option maxHeartbeats 4000000 in
set_option maxRecDepth 100000 in
theorem k_X6_house {X : JX PS} {AD : Nat → Nat → Nat} (h : OK X RX6 cX6_house rmX6_house) (hP : IsPool X.cI X.cZ X.cV X.B AD) (hnL : X.nL = 3) {res : Int32} {S : PS} {p1 : Int32} {p2 : Int32} (hE : EXi X cX6_house res S) (hF : f_X6_house S p1 p2 = some res) : J X 0 [(0, .ref (AD 12 7)), (1, .int p1), (2, .int p2)] [] S := by
  rw [f_X6_house] at hF
  refine j_aload_n h 0 rfl rfl dX6_house_0 ?_
  refine j_iload_n h 1 rfl rfl dX6_house_1 ?_
  obtain ⟨r_1, hr_1, hF⟩ := bind_row hF
  refine j_callVz h (st := []) (S' := S) (c_X6_isHouse X.l X.D X.cI X.cZ X.cV hP S p1 hr_1) rfl rfl q2_46 cw_X6_isHouse hP.2.2.2.2.2.1 rfl rfl rfl ⟨rfl, rfl, Nat.le_of_ble_eq_true rfl, Nat.le_of_ble_eq_true rfl⟩ _ rfl (Nat.le_of_ble_eq_true rfl) dX6_house_2 (fun hz_r_1 => ?_)
  refine j_if_eq h 18 (by decide) dX6_house_5 hF (fun hF => ?_) (fun hF => ?_)
  · refine j_ldc h (v := -1000002) q1_239 dX6_house_18 ?_
    cases hF
    exact hE _ _ dX6_house_20
  · refine j_iload_n h 2 rfl rfl dX6_house_8 ?_
    refine j_iconst h (v := 0) (by decide) dX6_house_9 ?_
    refine j_bipush h (v := 10) (by decide) dX6_house_10 ?_
    obtain ⟨r_2, hr_2, hF⟩ := bind_row hF
    refine j_callSz h (st := []) (S' := S) (c_X6_within X.l X.D X.cI X.cZ X.cV (B := X.B) S p2 (0 : Int32) (10 : Int32) hr_2) rfl rfl q1_236 cw_X6_within rfl ⟨rfl, rfl, Nat.le_of_ble_eq_true rfl, Nat.le_of_ble_eq_true rfl⟩ _ rfl (Nat.le_of_ble_eq_true rfl) dX6_house_12 (fun hz_r_2 => ?_)
    refine j_if_ne h 21 (by decide) dX6_house_15 hF (fun hF => ?_) (fun hF => ?_)
    · refine j_ldc h (v := -1000002) q1_239 dX6_house_18 ?_
      cases hF
      exact hE _ _ dX6_house_20
    · refine j_iload_n h 2 rfl rfl dX6_house_21 ?_
      refine j_case hF (fun g_3 hF => ?_) (fun g_3 hF => ?_)
      · refine j_lookup h (34) 56 (by decide) (by rw [g_3]; decide) (by decide) dX6_house_22 ?_
        refine j_aload_n h 0 rfl rfl dX6_house_56 ?_
        refine j_get h hP.2.2.2.2.2.1 inX6 rfl 0 (by decide) rfl q1_200 rfl dX6_house_57 ?_
        refine j_get h (hP.1 0 (by decide)).2.2.2.2.1.o inX5 rfl 0 (by decide) rfl q1_118 rfl dX6_house_60 ?_
        refine j_iload_n h 1 rfl rfl dX6_house_63 ?_
        refine j_aload_n h 0 rfl rfl dX6_house_64 ?_
        refine j_get h hP.2.2.2.2.2.1 inX6 rfl 0 (by decide) rfl q1_200 rfl dX6_house_65 ?_
        refine j_get h (hP.1 0 (by decide)).2.2.2.2.1.o inX5 rfl 3 (by decide) rfl q1_124 rfl dX6_house_68 ?_
        refine j_iconst h (v := 0) (by decide) dX6_house_71 ?_
        obtain ⟨hb_4, hF⟩ := bnd_row hF
        refine ja_iald h (get := fun S => S.1 0) (put := fun S v => setV S 0 v) ((hP.1 0 (by decide)).1 17 (by decide)) hb_4 dX6_house_72 ?_
        obtain ⟨r_5, hr_5, hF⟩ := bind_row hF
        refine j_callVi h (st := []) (S' := S) (c_X2_canDraw X.l X.D X.cI X.cZ X.cV (hP.v S 0 (by decide)) (S.1 0) p1 (rd (S.1 0) 17 (0 : Int32)) hr_5) (congrArg X.B (setV_id S 0)) (congrArg X.B (setV_id S 0)) q3_28 cw_X2_canDraw (hP.1 0 (by decide)).2.1.o rfl rfl rfl ⟨rfl, rfl, Nat.le_of_ble_eq_true rfl, Nat.le_of_ble_eq_true rfl⟩ _ rfl (Nat.le_of_ble_eq_true rfl) dX6_house_73 ?_
        cases hF
        exact hE _ _ dX6_house_76
      · have g_3 := sw_ne g_3 (n := 5) (by decide)
        refine j_case hF (fun g_6 hF => ?_) (fun g_6 hF => ?_)
        · refine j_lookup h (55) 77 (by decide) (by rw [g_6]; decide) (by decide) dX6_house_22 ?_
          refine j_aload_n h 0 rfl rfl dX6_house_77 ?_
          refine j_get h hP.2.2.2.2.2.1 inX6 rfl 0 (by decide) rfl q1_200 rfl dX6_house_78 ?_
          refine j_get h (hP.1 0 (by decide)).2.2.2.2.1.o inX5 rfl 1 (by decide) rfl q1_120 rfl dX6_house_81 ?_
          refine j_iload_n h 1 rfl rfl dX6_house_84 ?_
          obtain ⟨r_7, hr_7, hF⟩ := bind_row hF
          refine j_callVi h (st := []) (S' := S) (c_X4_owedBy X.l X.D X.cI X.cZ X.cV (hP.v S 0 (by decide)) (S.1 0) p1 hr_7) (congrArg X.B (setV_id S 0)) (congrArg X.B (setV_id S 0)) q3_29 cw_X4_owedBy (hP.1 0 (by decide)).2.2.1.o rfl rfl rfl ⟨rfl, rfl, Nat.le_of_ble_eq_true rfl, Nat.le_of_ble_eq_true rfl⟩ _ rfl (Nat.le_of_ble_eq_true rfl) dX6_house_85 ?_
          cases hF
          exact hE _ _ dX6_house_88
        · have g_6 := sw_ne g_6 (n := 9) (by decide)
          refine j_case hF (fun g_8 hF => ?_) (fun g_8 hF => ?_)
          · refine j_lookup h (67) 89 (by decide) (by rw [g_8]; decide) (by decide) dX6_house_22 ?_
            refine j_aload_n h 0 rfl rfl dX6_house_89 ?_
            refine j_get h hP.2.2.2.2.2.1 inX6 rfl 0 (by decide) rfl q1_200 rfl dX6_house_90 ?_
            refine j_get h (hP.1 0 (by decide)).2.2.2.2.1.o inX5 rfl 1 (by decide) rfl q1_120 rfl dX6_house_93 ?_
            refine j_iload_n h 1 rfl rfl dX6_house_96 ?_
            obtain ⟨r_9, hr_9, hF⟩ := bind_row hF
            refine j_callVi h (st := []) (S' := S) (c_X4_owedTo X.l X.D X.cI X.cZ X.cV (hP.v S 0 (by decide)) (S.1 0) p1 hr_9) (congrArg X.B (setV_id S 0)) (congrArg X.B (setV_id S 0)) q3_30 cw_X4_owedTo (hP.1 0 (by decide)).2.2.1.o rfl rfl rfl ⟨rfl, rfl, Nat.le_of_ble_eq_true rfl, Nat.le_of_ble_eq_true rfl⟩ _ rfl (Nat.le_of_ble_eq_true rfl) dX6_house_97 ?_
            cases hF
            exact hE _ _ dX6_house_100
          · have g_8 := sw_ne g_8 (n := 10) (by decide)
            refine j_lookup h (79) 101 (by decide) (by show Op.lookupswitch.offset [(5, 34), (9, 55), (10, 67)] (79) _ = (79); simp only [Op.lookupswitch.offset_cons, Op.lookupswitch.offset_nil]; rw [if_neg (Ne.symm g_3), if_neg (Ne.symm g_6), if_neg (Ne.symm g_8)]) (by decide) dX6_house_22 ?_
            refine j_aload_n h 0 rfl rfl dX6_house_101 ?_
            refine j_get h hP.2.2.2.2.2.1 inX6 rfl 0 (by decide) rfl q1_200 rfl dX6_house_102 ?_
            refine j_get h (hP.1 0 (by decide)).2.2.2.2.1.o inX5 rfl 0 (by decide) rfl q1_118 rfl dX6_house_105 ?_
            refine j_iload_n h 1 rfl rfl dX6_house_108 ?_
            refine j_iload_n h 2 rfl rfl dX6_house_109 ?_
            obtain ⟨r_10, hr_10, hF⟩ := bind_row hF
            refine j_callVi h (st := []) (S' := S) (c_X2_told X.l X.D X.cI X.cZ X.cV (hP.v S 0 (by decide)) (S.1 0) p1 p2 hr_10) (congrArg X.B (setV_id S 0)) (congrArg X.B (setV_id S 0)) q2_52 cw_X2_told (hP.1 0 (by decide)).2.1.o rfl rfl rfl ⟨rfl, rfl, Nat.le_of_ble_eq_true rfl, Nat.le_of_ble_eq_true rfl⟩ _ rfl (Nat.le_of_ble_eq_true rfl) dX6_house_110 ?_
            cases hF
            exact hE _ _ dX6_house_113
theorem c_X6_house (l : Launch) (D : va_G) (cI cZ cV : ClassId) {B : PS → va_W} {AD : Nat → Nat → Nat} (hP : IsPool cI cZ cV B AD) (S : PS) (p1 : Int32) (p2 : Int32) {r : Int32} (hF : f_X6_house S p1 p2 = some r) : CTi l D (jtys cI cZ cV) yX6_house cX6_house 3 (some .int) rmX6_house B [.ref (AD 12 7), .int p1, .int p2] S r S := by
  refine CTi.of [(0, .ref (AD 12 7)), (1, .int p1), (2, .int p2)] rfl (Nat.le_of_ble_eq_true rfl) (by decide) ⟨rfl, rfl⟩ (fun X e1 e2 e3 e4 e5 e6 e7 h hE => ?_)
  subst e1; subst e2; subst e3; subst e4; subst e5; subst e6
  exact k_X6_house h hP e7 hE hF
abbrev rmX6_isLoan : Room := { frames := 1, cells := 0, slots := 0, locals := 22 }
theorem cw_X6_isLoan : CWv RX6 yX6_isLoan cX6_isLoan 2 (some .boolean) 1 := ⟨q3_40, qs10, q1_1, q3_41, ⟨rfl, by decide +kernel, by decide +kernel, by decide +kernel⟩⟩
set_option maxHeartbeats 4000000 in
set_option maxRecDepth 100000 in
theorem k_X6_isLoan {X : JX PS} {AD : Nat → Nat → Nat} (h : OK X RX6 cX6_isLoan rmX6_isLoan) (hP : IsPool X.cI X.cZ X.cV X.B AD) (hnL : X.nL = 2) {res : Int32} {S : PS} {p1 : Int32} (hE : EXz X cX6_isLoan res S) (hF : f_X6_isLoan S p1 = some res) : J X 0 [(0, .ref (AD 12 7)), (1, .int p1)] [] S := by
  rw [f_X6_isLoan] at hF
  refine j_iload_n h 1 rfl rfl dX6_isLoan_0 ?_
  refine j_iconst h (v := 0) (by decide) dX6_isLoan_1 ?_
  refine j_aload_n h 0 rfl rfl dX6_isLoan_2 ?_
  refine j_get h hP.2.2.2.2.2.1 inX6 rfl 0 (by decide) rfl q1_200 rfl dX6_isLoan_3 ?_
  refine j_get h (hP.1 0 (by decide)).2.2.2.2.1.o inX5 rfl 1 (by decide) rfl q1_120 rfl dX6_isLoan_6 ?_
  refine j_get h (hP.1 0 (by decide)).2.2.1.o inX4 rfl 0 (by decide) rfl q1_81 rfl dX6_isLoan_9 ?_
  refine j_iconst h (v := 1) (by decide) dX6_isLoan_12 ?_
  refine j_isub h dX6_isLoan_13 ?_
  obtain ⟨r_1, hr_1, hF⟩ := bind_row hF
  refine j_callSz h (st := []) (S' := S) (c_X6_within X.l X.D X.cI X.cZ X.cV (B := X.B) S p1 (0 : Int32) (((S.1 0) 22 1) - (1 : Int32)) hr_1) rfl rfl q1_236 cw_X6_within rfl ⟨rfl, rfl, Nat.le_of_ble_eq_true rfl, Nat.le_of_ble_eq_true rfl⟩ _ rfl (Nat.le_of_ble_eq_true rfl) dX6_isLoan_14 (fun hz_r_1 => ?_)
  cases hF
  exact hE _ _ dX6_isLoan_17 (by assumption)
theorem c_X6_isLoan (l : Launch) (D : va_G) (cI cZ cV : ClassId) {B : PS → va_W} {AD : Nat → Nat → Nat} (hP : IsPool cI cZ cV B AD) (S : PS) (p1 : Int32) {r : Int32} (hF : f_X6_isLoan S p1 = some r) : CTz l D (jtys cI cZ cV) yX6_isLoan cX6_isLoan 2 (some .boolean) rmX6_isLoan B [.ref (AD 12 7), .int p1] S r S := by
  refine CTz.of [(0, .ref (AD 12 7)), (1, .int p1)] rfl (Nat.le_of_ble_eq_true rfl) (by decide) ⟨rfl, rfl⟩ (fun X e1 e2 e3 e4 e5 e6 e7 h hE => ?_)
  subst e1; subst e2; subst e3; subst e4; subst e5; subst e6
  exact k_X6_isLoan h hP e7 hE hF
abbrev rmX6_loan : Room := { frames := 2, cells := 0, slots := 0, locals := 43 }
theorem cw_X6_loan : CWv RX6 yX6_loan cX6_loan 3 (some .int) 2 := ⟨q3_35, q3_36, q1_1, q3_37, ⟨rfl, by decide +kernel, by decide +kernel, by decide +kernel⟩⟩
set_option maxHeartbeats 4000000 in
set_option maxRecDepth 100000 in
theorem k_X6_loan {X : JX PS} {AD : Nat → Nat → Nat} (h : OK X RX6 cX6_loan rmX6_loan) (hP : IsPool X.cI X.cZ X.cV X.B AD) (hnL : X.nL = 3) {res : Int32} {S : PS} {p1 : Int32} {p2 : Int32} (hE : EXi X cX6_loan res S) (hF : f_X6_loan S p1 p2 = some res) : J X 0 [(0, .ref (AD 12 7)), (1, .int p1), (2, .int p2)] [] S := by
  rw [f_X6_loan] at hF
  refine j_aload_n h 0 rfl rfl dX6_loan_0 ?_
  refine j_iload_n h 1 rfl rfl dX6_loan_1 ?_
  obtain ⟨r_1, hr_1, hF⟩ := bind_row hF
  refine j_callVz h (st := []) (S' := S) (c_X6_isLoan X.l X.D X.cI X.cZ X.cV hP S p1 hr_1) rfl rfl q3_38 cw_X6_isLoan hP.2.2.2.2.2.1 rfl rfl rfl ⟨rfl, rfl, Nat.le_of_ble_eq_true rfl, Nat.le_of_ble_eq_true rfl⟩ _ rfl (Nat.le_of_ble_eq_true rfl) dX6_loan_2 (fun hz_r_1 => ?_)
  refine j_if_eq h 17 (by decide) dX6_loan_5 hF (fun hF => ?_) (fun hF => ?_)
  · refine j_ldc h (v := -1000002) q1_239 dX6_loan_17 ?_
    cases hF
    exact hE _ _ dX6_loan_19
  · refine j_iload_n h 2 rfl rfl dX6_loan_8 ?_
    refine j_iconst h (v := 0) (by decide) dX6_loan_9 ?_
    refine j_iconst h (v := 2) (by decide) dX6_loan_10 ?_
    obtain ⟨r_2, hr_2, hF⟩ := bind_row hF
    refine j_callSz h (st := []) (S' := S) (c_X6_within X.l X.D X.cI X.cZ X.cV (B := X.B) S p2 (0 : Int32) (2 : Int32) hr_2) rfl rfl q1_236 cw_X6_within rfl ⟨rfl, rfl, Nat.le_of_ble_eq_true rfl, Nat.le_of_ble_eq_true rfl⟩ _ rfl (Nat.le_of_ble_eq_true rfl) dX6_loan_11 (fun hz_r_2 => ?_)
    refine j_if_ne h 20 (by decide) dX6_loan_14 hF (fun hF => ?_) (fun hF => ?_)
    · refine j_ldc h (v := -1000002) q1_239 dX6_loan_17 ?_
      cases hF
      exact hE _ _ dX6_loan_19
    · refine j_aload_n h 0 rfl rfl dX6_loan_20 ?_
      refine j_get h hP.2.2.2.2.2.1 inX6 rfl 0 (by decide) rfl q1_200 rfl dX6_loan_21 ?_
      refine j_get h (hP.1 0 (by decide)).2.2.2.2.1.o inX5 rfl 1 (by decide) rfl q1_120 rfl dX6_loan_24 ?_
      refine j_iload_n h 1 rfl rfl dX6_loan_27 ?_
      refine j_iload_n h 2 rfl rfl dX6_loan_28 ?_
      obtain ⟨r_3, hr_3, hF⟩ := bind_row hF
      refine j_callVi h (st := []) (S' := S) (c_X4_told X.l X.D X.cI X.cZ X.cV (hP.v S 0 (by decide)) (S.1 0) p1 p2 hr_3) (congrArg X.B (setV_id S 0)) (congrArg X.B (setV_id S 0)) q3_42 cw_X4_told (hP.1 0 (by decide)).2.2.1.o rfl rfl rfl ⟨rfl, rfl, Nat.le_of_ble_eq_true rfl, Nat.le_of_ble_eq_true rfl⟩ _ rfl (Nat.le_of_ble_eq_true rfl) dX6_loan_29 ?_
      cases hF
      exact hE _ _ dX6_loan_32
theorem c_X6_loan (l : Launch) (D : va_G) (cI cZ cV : ClassId) {B : PS → va_W} {AD : Nat → Nat → Nat} (hP : IsPool cI cZ cV B AD) (S : PS) (p1 : Int32) (p2 : Int32) {r : Int32} (hF : f_X6_loan S p1 p2 = some r) : CTi l D (jtys cI cZ cV) yX6_loan cX6_loan 3 (some .int) rmX6_loan B [.ref (AD 12 7), .int p1, .int p2] S r S := by
  refine CTi.of [(0, .ref (AD 12 7)), (1, .int p1), (2, .int p2)] rfl (Nat.le_of_ble_eq_true rfl) (by decide) ⟨rfl, rfl⟩ (fun X e1 e2 e3 e4 e5 e6 e7 h hE => ?_)
  subst e1; subst e2; subst e3; subst e4; subst e5; subst e6
  exact k_X6_loan h hP e7 hE hF
abbrev rmX6_battery : Room := { frames := 3, cells := 0, slots := 0, locals := 64 }
theorem cw_X6_battery : CWv RX6 yX6_battery cX6_battery 3 (some .int) 2 := ⟨q3_47, q3_48, q1_1, q3_49, ⟨rfl, by decide +kernel, by decide +kernel, by decide +kernel⟩⟩
set_option maxHeartbeats 4000000 in
set_option maxRecDepth 100000 in
theorem k_X6_battery {X : JX PS} {AD : Nat → Nat → Nat} (h : OK X RX6 cX6_battery rmX6_battery) (hP : IsPool X.cI X.cZ X.cV X.B AD) (hnL : X.nL = 3) {res : Int32} {S : PS} {p1 : Int32} {p2 : Int32} (hE : EXi X cX6_battery res S) (hF : f_X6_battery S p1 p2 = some res) : J X 0 [(0, .ref (AD 12 7)), (1, .int p1), (2, .int p2)] [] S := by
  rw [f_X6_battery] at hF
  refine j_iload_n h 1 rfl rfl dX6_battery_0 ?_
  obtain ⟨r_1, hr_1, hF⟩ := bind_row hF
  refine j_callSz h (st := []) (S' := S) (c_X6_isBattery X.l X.D X.cI X.cZ X.cV (B := X.B) S p1 hr_1) rfl rfl q2_73 cw_X6_isBattery rfl ⟨rfl, rfl, Nat.le_of_ble_eq_true rfl, Nat.le_of_ble_eq_true rfl⟩ _ rfl (Nat.le_of_ble_eq_true rfl) dX6_battery_1 (fun hz_r_1 => ?_)
  refine j_if_eq h 16 (by decide) dX6_battery_4 hF (fun hF => ?_) (fun hF => ?_)
  · refine j_ldc h (v := -1000002) q1_239 dX6_battery_16 ?_
    cases hF
    exact hE _ _ dX6_battery_18
  · refine j_iload_n h 2 rfl rfl dX6_battery_7 ?_
    refine j_iconst h (v := 0) (by decide) dX6_battery_8 ?_
    refine j_iconst h (v := 4) (by decide) dX6_battery_9 ?_
    obtain ⟨r_2, hr_2, hF⟩ := bind_row hF
    refine j_callSz h (st := []) (S' := S) (c_X6_within X.l X.D X.cI X.cZ X.cV (B := X.B) S p2 (0 : Int32) (4 : Int32) hr_2) rfl rfl q1_236 cw_X6_within rfl ⟨rfl, rfl, Nat.le_of_ble_eq_true rfl, Nat.le_of_ble_eq_true rfl⟩ _ rfl (Nat.le_of_ble_eq_true rfl) dX6_battery_10 (fun hz_r_2 => ?_)
    refine j_if_ne h 19 (by decide) dX6_battery_13 hF (fun hF => ?_) (fun hF => ?_)
    · refine j_ldc h (v := -1000002) q1_239 dX6_battery_16 ?_
      cases hF
      exact hE _ _ dX6_battery_18
    · refine j_aload_n h 0 rfl rfl dX6_battery_19 ?_
      refine j_get h hP.2.2.2.2.2.1 inX6 rfl 0 (by decide) rfl q1_200 rfl dX6_battery_20 ?_
      refine j_get h (hP.1 0 (by decide)).2.2.2.2.1.o inX5 rfl 2 (by decide) rfl q1_122 rfl dX6_battery_23 ?_
      refine j_iload_n h 1 rfl rfl dX6_battery_26 ?_
      refine j_iload_n h 2 rfl rfl dX6_battery_27 ?_
      obtain ⟨r_3, hr_3, hF⟩ := bind_row hF
      refine j_callVi h (st := []) (S' := S) (c_X0_told X.l X.D X.cI X.cZ X.cV (hP.v S 0 (by decide)) (S.1 0) p1 p2 hr_3) (congrArg X.B (setV_id S 0)) (congrArg X.B (setV_id S 0)) q2_80 cw_X0_told (hP.1 0 (by decide)).2.2.2.1 rfl rfl rfl ⟨rfl, rfl, Nat.le_of_ble_eq_true rfl, Nat.le_of_ble_eq_true rfl⟩ _ rfl (Nat.le_of_ble_eq_true rfl) dX6_battery_28 ?_
      cases hF
      exact hE _ _ dX6_battery_31
theorem c_X6_battery (l : Launch) (D : va_G) (cI cZ cV : ClassId) {B : PS → va_W} {AD : Nat → Nat → Nat} (hP : IsPool cI cZ cV B AD) (S : PS) (p1 : Int32) (p2 : Int32) {r : Int32} (hF : f_X6_battery S p1 p2 = some r) : CTi l D (jtys cI cZ cV) yX6_battery cX6_battery 3 (some .int) rmX6_battery B [.ref (AD 12 7), .int p1, .int p2] S r S := by
  refine CTi.of [(0, .ref (AD 12 7)), (1, .int p1), (2, .int p2)] rfl (Nat.le_of_ble_eq_true rfl) (by decide) ⟨rfl, rfl⟩ (fun X e1 e2 e3 e4 e5 e6 e7 h hE => ?_)
  subst e1; subst e2; subst e3; subst e4; subst e5; subst e6
  exact k_X6_battery h hP e7 hE hF
abbrev rmX6_feeder : Room := { frames := 3, cells := 0, slots := 0, locals := 67 }
theorem cw_X6_feeder : CWv RX6 yX6_feeder cX6_feeder 3 (some .int) 2 := ⟨q3_51, q3_52, q1_1, q3_53, ⟨rfl, by decide +kernel, by decide +kernel, by decide +kernel⟩⟩
set_option maxHeartbeats 4000000 in
set_option maxRecDepth 100000 in
theorem k_X6_feeder {X : JX PS} {AD : Nat → Nat → Nat} (h : OK X RX6 cX6_feeder rmX6_feeder) (hP : IsPool X.cI X.cZ X.cV X.B AD) (hnL : X.nL = 3) {res : Int32} {S : PS} {p1 : Int32} {p2 : Int32} (hE : EXi X cX6_feeder res S) (hF : f_X6_feeder S p1 p2 = some res) : J X 0 [(0, .ref (AD 12 7)), (1, .int p1), (2, .int p2)] [] S := by
  rw [f_X6_feeder] at hF
  refine j_iload_n h 1 rfl rfl dX6_feeder_0 ?_
  refine j_iconst h (v := 0) (by decide) dX6_feeder_1 ?_
  refine j_iconst h (v := 2) (by decide) dX6_feeder_2 ?_
  obtain ⟨r_1, hr_1, hF⟩ := bind_row hF
  refine j_callSz h (st := []) (S' := S) (c_X6_within X.l X.D X.cI X.cZ X.cV (B := X.B) S p1 (0 : Int32) (2 : Int32) hr_1) rfl rfl q1_236 cw_X6_within rfl ⟨rfl, rfl, Nat.le_of_ble_eq_true rfl, Nat.le_of_ble_eq_true rfl⟩ _ rfl (Nat.le_of_ble_eq_true rfl) dX6_feeder_3 (fun hz_r_1 => ?_)
  refine j_if_eq h 18 (by decide) dX6_feeder_6 hF (fun hF => ?_) (fun hF => ?_)
  · refine j_ldc h (v := -1000002) q1_239 dX6_feeder_18 ?_
    cases hF
    exact hE _ _ dX6_feeder_20
  · refine j_iload_n h 2 rfl rfl dX6_feeder_9 ?_
    refine j_iconst h (v := 0) (by decide) dX6_feeder_10 ?_
    refine j_iconst h (v := 4) (by decide) dX6_feeder_11 ?_
    obtain ⟨r_2, hr_2, hF⟩ := bind_row hF
    refine j_callSz h (st := []) (S' := S) (c_X6_within X.l X.D X.cI X.cZ X.cV (B := X.B) S p2 (0 : Int32) (4 : Int32) hr_2) rfl rfl q1_236 cw_X6_within rfl ⟨rfl, rfl, Nat.le_of_ble_eq_true rfl, Nat.le_of_ble_eq_true rfl⟩ _ rfl (Nat.le_of_ble_eq_true rfl) dX6_feeder_12 (fun hz_r_2 => ?_)
    refine j_if_ne h 21 (by decide) dX6_feeder_15 hF (fun hF => ?_) (fun hF => ?_)
    · refine j_ldc h (v := -1000002) q1_239 dX6_feeder_18 ?_
      cases hF
      exact hE _ _ dX6_feeder_20
    · refine j_iload_n h 2 rfl rfl dX6_feeder_21 ?_
      refine j_case hF (fun g_3 hF => ?_) (fun g_3 hF => ?_)
      · refine j_tableIn h (30) 52 0 g_3 (by decide) (by decide) (by decide) (by decide) dX6_feeder_22 ?_
        refine j_aload_n h 0 rfl rfl dX6_feeder_52 ?_
        refine j_get h hP.2.2.2.2.2.1 inX6 rfl 0 (by decide) rfl q1_200 rfl dX6_feeder_53 ?_
        refine j_get h (hP.1 0 (by decide)).2.2.2.2.1.o inX5 rfl 0 (by decide) rfl q1_118 rfl dX6_feeder_56 ?_
        refine j_iload_n h 1 rfl rfl dX6_feeder_59 ?_
        obtain ⟨r_4, hr_4, hF⟩ := bind_row hF
        refine j_callVi h (st := []) (S' := S) (c_X2_sizeOf X.l X.D X.cI X.cZ X.cV (hP.v S 0 (by decide)) (S.1 0) p1 hr_4) (congrArg X.B (setV_id S 0)) (congrArg X.B (setV_id S 0)) q3_54 cw_X2_sizeOf (hP.1 0 (by decide)).2.1.o rfl rfl rfl ⟨rfl, rfl, Nat.le_of_ble_eq_true rfl, Nat.le_of_ble_eq_true rfl⟩ _ rfl (Nat.le_of_ble_eq_true rfl) dX6_feeder_60 ?_
        cases hF
        exact hE _ _ dX6_feeder_63
      · have g_3 := sw_ne g_3 (n := 0) (by decide)
        refine j_case hF (fun g_5 hF => ?_) (fun g_5 hF => ?_)
        · refine j_tableIn h (42) 64 1 g_5 (by decide) (by decide) (by decide) (by decide) dX6_feeder_22 ?_
          refine j_aload_n h 0 rfl rfl dX6_feeder_64 ?_
          refine j_get h hP.2.2.2.2.2.1 inX6 rfl 0 (by decide) rfl q1_200 rfl dX6_feeder_65 ?_
          refine j_get h (hP.1 0 (by decide)).2.2.2.2.1.o inX5 rfl 0 (by decide) rfl q1_118 rfl dX6_feeder_68 ?_
          refine j_iload_n h 1 rfl rfl dX6_feeder_71 ?_
          refine j_aload_n h 0 rfl rfl dX6_feeder_72 ?_
          refine j_get h hP.2.2.2.2.2.1 inX6 rfl 0 (by decide) rfl q1_200 rfl dX6_feeder_73 ?_
          refine j_get h (hP.1 0 (by decide)).2.2.2.2.1.o inX5 rfl 3 (by decide) rfl q1_124 rfl dX6_feeder_76 ?_
          refine j_iconst h (v := 0) (by decide) dX6_feeder_79 ?_
          obtain ⟨hb_6, hF⟩ := bnd_row hF
          refine ja_iald h (get := fun S => S.1 0) (put := fun S v => setV S 0 v) ((hP.1 0 (by decide)).1 17 (by decide)) hb_6 dX6_feeder_80 ?_
          obtain ⟨r_7, hr_7, hF⟩ := bind_row hF
          refine j_callVi h (st := []) (S' := S) (c_X2_drawnFrom X.l X.D X.cI X.cZ X.cV (hP.v S 0 (by decide)) (S.1 0) p1 (rd (S.1 0) 17 (0 : Int32)) hr_7) (congrArg X.B (setV_id S 0)) (congrArg X.B (setV_id S 0)) q3_58 cw_X2_drawnFrom (hP.1 0 (by decide)).2.1.o rfl rfl rfl ⟨rfl, rfl, Nat.le_of_ble_eq_true rfl, Nat.le_of_ble_eq_true rfl⟩ _ rfl (Nat.le_of_ble_eq_true rfl) dX6_feeder_81 ?_
          cases hF
          exact hE _ _ dX6_feeder_84
        · have g_5 := sw_ne g_5 (n := 1) (by decide)
          refine j_case hF (fun g_8 hF => ?_) (fun g_8 hF => ?_)
          · refine j_tableIn h (63) 85 2 g_8 (by decide) (by decide) (by decide) (by decide) dX6_feeder_22 ?_
            refine j_aload_n h 0 rfl rfl dX6_feeder_85 ?_
            refine j_get h hP.2.2.2.2.2.1 inX6 rfl 0 (by decide) rfl q1_200 rfl dX6_feeder_86 ?_
            refine j_get h (hP.1 0 (by decide)).2.2.2.2.1.o inX5 rfl 0 (by decide) rfl q1_118 rfl dX6_feeder_89 ?_
            refine j_iload_n h 1 rfl rfl dX6_feeder_92 ?_
            refine j_aload_n h 0 rfl rfl dX6_feeder_93 ?_
            refine j_get h hP.2.2.2.2.2.1 inX6 rfl 0 (by decide) rfl q1_200 rfl dX6_feeder_94 ?_
            refine j_get h (hP.1 0 (by decide)).2.2.2.2.1.o inX5 rfl 0 (by decide) rfl q1_118 rfl dX6_feeder_97 ?_
            refine j_get h (hP.1 0 (by decide)).2.1.o inX2 rfl 5 (by decide) rfl q1_41 rfl dX6_feeder_100 ?_
            obtain ⟨r_9, hr_9, hF⟩ := bind_row hF
            refine j_callVi h (st := []) (S' := S) (c_X2_sumFrom X.l X.D X.cI X.cZ X.cV (hP.v S 0 (by decide)) (by decide) (S.1 0) p1 hr_9) (congrArg X.B (setV_id S 0)) (congrArg X.B (setV_id S 0)) q3_62 cw_X2_sumFrom (hP.1 0 (by decide)).2.1.o rfl rfl rfl ⟨rfl, rfl, Nat.le_of_ble_eq_true rfl, Nat.le_of_ble_eq_true rfl⟩ _ rfl (Nat.le_of_ble_eq_true rfl) dX6_feeder_103 ?_
            cases hF
            exact hE _ _ dX6_feeder_106
          · have g_8 := sw_ne g_8 (n := 2) (by decide)
            refine j_case hF (fun g_10 hF => ?_) (fun g_10 hF => ?_)
            · refine j_tableIn h (85) 107 3 g_10 (by decide) (by decide) (by decide) (by decide) dX6_feeder_22 ?_
              refine j_aload_n h 0 rfl rfl dX6_feeder_107 ?_
              refine j_get h hP.2.2.2.2.2.1 inX6 rfl 0 (by decide) rfl q1_200 rfl dX6_feeder_108 ?_
              refine j_get h (hP.1 0 (by decide)).2.2.2.2.1.o inX5 rfl 5 (by decide) rfl q1_128 rfl dX6_feeder_111 ?_
              refine j_iload_n h 1 rfl rfl dX6_feeder_114 ?_
              obtain ⟨hb_11, hF⟩ := bnd_row hF
              refine ja_iald h (get := fun S => S.1 0) (put := fun S v => setV S 0 v) ((hP.1 0 (by decide)).1 19 (by decide)) hb_11 dX6_feeder_115 ?_
              cases hF
              exact hE _ _ dX6_feeder_116
            · have g_10 := sw_ne g_10 (n := 3) (by decide)
              refine j_tableOut h 117 (by omega) (by decide) dX6_feeder_22 ?_
              refine j_aload_n h 0 rfl rfl dX6_feeder_117 ?_
              refine j_get h hP.2.2.2.2.2.1 inX6 rfl 0 (by decide) rfl q1_200 rfl dX6_feeder_118 ?_
              refine j_get h (hP.1 0 (by decide)).2.2.2.2.1.o inX5 rfl 6 (by decide) rfl q1_130 rfl dX6_feeder_121 ?_
              refine j_iload_n h 1 rfl rfl dX6_feeder_124 ?_
              obtain ⟨hb_12, hF⟩ := bnd_row hF
              refine ja_iald h (get := fun S => S.1 0) (put := fun S v => setV S 0 v) ((hP.1 0 (by decide)).1 20 (by decide)) hb_12 dX6_feeder_125 ?_
              cases hF
              exact hE _ _ dX6_feeder_126
theorem c_X6_feeder (l : Launch) (D : va_G) (cI cZ cV : ClassId) {B : PS → va_W} {AD : Nat → Nat → Nat} (hP : IsPool cI cZ cV B AD) (S : PS) (p1 : Int32) (p2 : Int32) {r : Int32} (hF : f_X6_feeder S p1 p2 = some r) : CTi l D (jtys cI cZ cV) yX6_feeder cX6_feeder 3 (some .int) rmX6_feeder B [.ref (AD 12 7), .int p1, .int p2] S r S := by
  refine CTi.of [(0, .ref (AD 12 7)), (1, .int p1), (2, .int p2)] rfl (Nat.le_of_ble_eq_true rfl) (by decide) ⟨rfl, rfl⟩ (fun X e1 e2 e3 e4 e5 e6 e7 h hE => ?_)
  subst e1; subst e2; subst e3; subst e4; subst e5; subst e6
  exact k_X6_feeder h hP e7 hE hF
abbrev rmX6_account : Room := { frames := 1, cells := 0, slots := 0, locals := 22 }
theorem cw_X6_account : CWv RX6 yX6_account cX6_account 2 (some .int) 1 := ⟨q3_64, q3_65, q1_1, q3_66, ⟨rfl, by decide +kernel, by decide +kernel, by decide +kernel⟩⟩
set_option maxHeartbeats 4000000 in
set_option maxRecDepth 100000 in
theorem k_X6_account {X : JX PS} {AD : Nat → Nat → Nat} (h : OK X RX6 cX6_account rmX6_account) (hP : IsPool X.cI X.cZ X.cV X.B AD) (hnL : X.nL = 2) {res : Int32} {S : PS} {p1 : Int32} (hE : EXi X cX6_account res S) (hF : f_X6_account S p1 = some res) : J X 0 [(0, .ref (AD 12 7)), (1, .int p1)] [] S := by
  rw [f_X6_account] at hF
  refine j_iload_n h 1 rfl rfl dX6_account_0 ?_
  refine j_iconst h (v := 0) (by decide) dX6_account_1 ?_
  refine j_bipush h (v := 7) (by decide) dX6_account_2 ?_
  obtain ⟨r_1, hr_1, hF⟩ := bind_row hF
  refine j_callSz h (st := []) (S' := S) (c_X6_within X.l X.D X.cI X.cZ X.cV (B := X.B) S p1 (0 : Int32) (7 : Int32) hr_1) rfl rfl q1_236 cw_X6_within rfl ⟨rfl, rfl, Nat.le_of_ble_eq_true rfl, Nat.le_of_ble_eq_true rfl⟩ _ rfl (Nat.le_of_ble_eq_true rfl) dX6_account_4 (fun hz_r_1 => ?_)
  refine j_if_ne h 13 (by decide) dX6_account_7 hF (fun hF => ?_) (fun hF => ?_)
  · refine j_ldc h (v := -1000002) q1_239 dX6_account_10 ?_
    cases hF
    exact hE _ _ dX6_account_12
  · refine j_iload_n h 1 rfl rfl dX6_account_13 ?_
    refine j_iconst h (v := 5) (by decide) dX6_account_14 ?_
    refine j_icmp_ne h 31 (by decide) dX6_account_15 hF (fun hF => ?_) (fun hF => ?_)
    · refine j_aload_n h 0 rfl rfl dX6_account_18 ?_
      refine j_get h hP.2.2.2.2.2.1 inX6 rfl 0 (by decide) rfl q1_200 rfl dX6_account_19 ?_
      refine j_get h (hP.1 0 (by decide)).2.2.2.2.1.o inX5 rfl 2 (by decide) rfl q1_122 rfl dX6_account_22 ?_
      obtain ⟨r_2, hr_2, hF⟩ := bind_row hF
      refine j_callVi h (st := []) (S' := S) (c_X0_chargeOfAll X.l X.D X.cI X.cZ X.cV (hP.v S 0 (by decide)) (S.1 0) hr_2) (congrArg X.B (setV_id S 0)) (congrArg X.B (setV_id S 0)) q3_67 cw_X0_chargeOfAll (hP.1 0 (by decide)).2.2.2.1 rfl rfl rfl ⟨rfl, rfl, Nat.le_of_ble_eq_true rfl, Nat.le_of_ble_eq_true rfl⟩ _ rfl (Nat.le_of_ble_eq_true rfl) dX6_account_25 ?_
      refine j_goto h 40 (by decide) dX6_account_28 ?_
      cases hF
      exact hE _ _ dX6_account_40
    · refine j_aload_n h 0 rfl rfl dX6_account_31 ?_
      refine j_get h hP.2.2.2.2.2.1 inX6 rfl 0 (by decide) rfl q1_200 rfl dX6_account_32 ?_
      refine j_get h (hP.1 0 (by decide)).2.2.2.2.1.o inX5 rfl 4 (by decide) rfl q1_126 rfl dX6_account_35 ?_
      refine j_iload_n h 1 rfl rfl dX6_account_38 ?_
      obtain ⟨hb_3, hF⟩ := bnd_row hF
      refine ja_iald h (get := fun S => S.1 0) (put := fun S v => setV S 0 v) ((hP.1 0 (by decide)).1 18 (by decide)) hb_3 dX6_account_39 ?_
      cases hF
      exact hE _ _ dX6_account_40
theorem c_X6_account (l : Launch) (D : va_G) (cI cZ cV : ClassId) {B : PS → va_W} {AD : Nat → Nat → Nat} (hP : IsPool cI cZ cV B AD) (S : PS) (p1 : Int32) {r : Int32} (hF : f_X6_account S p1 = some r) : CTi l D (jtys cI cZ cV) yX6_account cX6_account 2 (some .int) rmX6_account B [.ref (AD 12 7), .int p1] S r S := by
  refine CTi.of [(0, .ref (AD 12 7)), (1, .int p1)] rfl (Nat.le_of_ble_eq_true rfl) (by decide) ⟨rfl, rfl⟩ (fun X e1 e2 e3 e4 e5 e6 e7 h hE => ?_)
  subst e1; subst e2; subst e3; subst e4; subst e5; subst e6
  exact k_X6_account h hP e7 hE hF
abbrev rmX6_count : Room := { frames := 1, cells := 0, slots := 0, locals := 22 }
theorem cw_X6_count : CWv RX6 yX6_count cX6_count 2 (some .int) 1 := ⟨q3_76, q3_77, q1_1, q3_78, ⟨rfl, by decide +kernel, by decide +kernel, by decide +kernel⟩⟩
set_option maxHeartbeats 4000000 in
set_option maxRecDepth 100000 in
theorem k_X6_count_116 {X : JX PS} {AD : Nat → Nat → Nat} (h : OK X RX6 cX6_count rmX6_count) (hP : IsPool X.cI X.cZ X.cV X.B AD) (hnL : X.nL = 2) {res : Int32} {S : PS} {s0 : Int32} (hE : EXi X cX6_count res S) (hF : f_X6_count_116 S s0 = some res) : J X 116 [(0, .ref (AD 12 7))] [.int s0] S := by
  rw [f_X6_count_116] at hF
  refine j_aload_n h 0 rfl rfl dX6_count_116 ?_
  refine j_get h hP.2.2.2.2.2.1 inX6 rfl 4 (by decide) rfl q1_204 rfl dX6_count_117 ?_
  refine j_iconst h (v := 1) (by decide) dX6_count_120 ?_
  obtain ⟨hb_9, hF⟩ := bnd_row hF
  refine j_zald h hP.2.2.1.a hb_9 dX6_count_121 ?_
  refine j_if_eq h 129 (by decide) dX6_count_122 hF (fun hF => ?_) (fun hF => ?_)
  · refine j_iconst h (v := 0) (by decide) dX6_count_129 ?_
    refine j_iadd h dX6_count_130 ?_
    cases hF
    exact hE _ _ dX6_count_131
  · refine j_iconst h (v := 2) (by decide) dX6_count_125 ?_
    refine j_goto h 130 (by decide) dX6_count_126 ?_
    refine j_iadd h dX6_count_130 ?_
    cases hF
    exact hE _ _ dX6_count_131
set_option maxHeartbeats 4000000 in
set_option maxRecDepth 100000 in
theorem k_X6_count {X : JX PS} {AD : Nat → Nat → Nat} (h : OK X RX6 cX6_count rmX6_count) (hP : IsPool X.cI X.cZ X.cV X.B AD) (hnL : X.nL = 2) {res : Int32} {S : PS} {p1 : Int32} (hE : EXi X cX6_count res S) (hF : f_X6_count S p1 = some res) : J X 0 [(0, .ref (AD 12 7)), (1, .int p1)] [] S := by
  rw [f_X6_count] at hF
  refine j_iload_n h 1 rfl rfl dX6_count_0 ?_
  refine j_case hF (fun g_1 hF => ?_) (fun g_1 hF => ?_)
  · refine j_tableIn h (47) 48 0 g_1 (by decide) (by decide) (by decide) (by decide) dX6_count_1 ?_
    refine j_aload_n h 0 rfl rfl dX6_count_48 ?_
    refine j_get h hP.2.2.2.2.2.1 inX6 rfl 0 (by decide) rfl q1_200 rfl dX6_count_49 ?_
    refine j_get h (hP.1 0 (by decide)).2.2.2.2.1.o inX5 rfl 0 (by decide) rfl q1_118 rfl dX6_count_52 ?_
    refine j_get h (hP.1 0 (by decide)).2.1.o inX2 rfl 0 (by decide) rfl q1_31 rfl dX6_count_55 ?_
    cases hF
    exact hE _ _ dX6_count_58
  · have g_1 := sw_ne g_1 (n := 0) (by decide)
    refine j_case hF (fun g_2 hF => ?_) (fun g_2 hF => ?_)
    · refine j_tableIn h (58) 59 1 g_2 (by decide) (by decide) (by decide) (by decide) dX6_count_1 ?_
      refine j_aload_n h 0 rfl rfl dX6_count_59 ?_
      refine j_get h hP.2.2.2.2.2.1 inX6 rfl 0 (by decide) rfl q1_200 rfl dX6_count_60 ?_
      refine j_get h (hP.1 0 (by decide)).2.2.2.2.1.o inX5 rfl 1 (by decide) rfl q1_120 rfl dX6_count_63 ?_
      refine j_get h (hP.1 0 (by decide)).2.2.1.o inX4 rfl 0 (by decide) rfl q1_81 rfl dX6_count_66 ?_
      cases hF
      exact hE _ _ dX6_count_69
    · have g_2 := sw_ne g_2 (n := 1) (by decide)
      refine j_case hF (fun g_3 hF => ?_) (fun g_3 hF => ?_)
      · refine j_tableIn h (69) 70 2 g_3 (by decide) (by decide) (by decide) (by decide) dX6_count_1 ?_
        refine j_aload_n h 0 rfl rfl dX6_count_70 ?_
        refine j_get h hP.2.2.2.2.2.1 inX6 rfl 0 (by decide) rfl q1_200 rfl dX6_count_71 ?_
        refine j_get h (hP.1 0 (by decide)).2.2.2.2.1.o inX5 rfl 9 (by decide) rfl q1_135 rfl dX6_count_74 ?_
        cases hF
        exact hE _ _ dX6_count_77
      · have g_3 := sw_ne g_3 (n := 2) (by decide)
        refine j_case hF (fun g_4 hF => ?_) (fun g_4 hF => ?_)
        · refine j_tableIn h (77) 78 3 g_4 (by decide) (by decide) (by decide) (by decide) dX6_count_1 ?_
          refine j_aload_n h 0 rfl rfl dX6_count_78 ?_
          refine j_get h hP.2.2.2.2.2.1 inX6 rfl 0 (by decide) rfl q1_200 rfl dX6_count_79 ?_
          refine j_get h (hP.1 0 (by decide)).2.2.2.2.1.o inX5 rfl 8 (by decide) rfl q1_133 rfl dX6_count_82 ?_
          cases hF
          exact hE _ _ dX6_count_85
        · have g_4 := sw_ne g_4 (n := 3) (by decide)
          refine j_case hF (fun g_5 hF => ?_) (fun g_5 hF => ?_)
          · refine j_tableIn h (85) 86 4 g_5 (by decide) (by decide) (by decide) (by decide) dX6_count_1 ?_
            refine j_aload_n h 0 rfl rfl dX6_count_86 ?_
            refine j_get h hP.2.2.2.2.2.1 inX6 rfl 0 (by decide) rfl q1_200 rfl dX6_count_87 ?_
            refine j_get h (hP.1 0 (by decide)).2.2.2.2.1.o inX5 rfl 10 (by decide) rfl q1_137 rfl dX6_count_90 ?_
            cases hF
            exact hE _ _ dX6_count_93
          · have g_5 := sw_ne g_5 (n := 4) (by decide)
            refine j_case hF (fun g_6 hF => ?_) (fun g_6 hF => ?_)
            · refine j_tableIn h (93) 94 5 g_6 (by decide) (by decide) (by decide) (by decide) dX6_count_1 ?_
              refine j_aload_n h 0 rfl rfl dX6_count_94 ?_
              refine j_get h hP.2.2.2.2.2.1 inX6 rfl 2 (by decide) rfl q1_202 rfl dX6_count_95 ?_
              refine j_get h hP.2.2.2.1.o inX1 rfl 0 (by decide) rfl q1_171 rfl dX6_count_98 ?_
              cases hF
              exact hE _ _ dX6_count_101
            · have g_6 := sw_ne g_6 (n := 5) (by decide)
              refine j_case hF (fun g_7 hF => ?_) (fun g_7 hF => ?_)
              · refine j_tableIn h (101) 102 6 g_7 (by decide) (by decide) (by decide) (by decide) dX6_count_1 ?_
                refine j_aload_n h 0 rfl rfl dX6_count_102 ?_
                refine j_get h hP.2.2.2.2.2.1 inX6 rfl 4 (by decide) rfl q1_204 rfl dX6_count_103 ?_
                refine j_iconst h (v := 0) (by decide) dX6_count_106 ?_
                obtain ⟨hb_8, hF⟩ := bnd_row hF
                refine j_zald h hP.2.2.1.a hb_8 dX6_count_107 ?_
                refine j_if_eq h 115 (by decide) dX6_count_108 hF (fun hF => ?_) (fun hF => ?_)
                · refine j_iconst h (v := 0) (by decide) dX6_count_115 ?_
                  exact j_sub [0] rfl (k_X6_count_116 h hP hnL hE hF)
                · refine j_iconst h (v := 1) (by decide) dX6_count_111 ?_
                  refine j_goto h 116 (by decide) dX6_count_112 ?_
                  exact j_sub [0] rfl (k_X6_count_116 h hP hnL hE hF)
              · have g_7 := sw_ne g_7 (n := 6) (by decide)
                refine j_case hF (fun g_10 hF => ?_) (fun g_10 hF => ?_)
                · refine j_tableIn h (131) 132 7 g_10 (by decide) (by decide) (by decide) (by decide) dX6_count_1 ?_
                  refine j_aload_n h 0 rfl rfl dX6_count_132 ?_
                  refine j_get h hP.2.2.2.2.2.1 inX6 rfl 0 (by decide) rfl q1_200 rfl dX6_count_133 ?_
                  refine j_get h (hP.1 0 (by decide)).2.2.2.2.1.o inX5 rfl 0 (by decide) rfl q1_118 rfl dX6_count_136 ?_
                  obtain ⟨r_11, hr_11, hF⟩ := bind_row hF
                  refine j_callVi h (st := []) (S' := S) (c_X2_overdrawn X.l X.D X.cI X.cZ X.cV (hP.v S 0 (by decide)) (S.1 0) hr_11) (congrArg X.B (setV_id S 0)) (congrArg X.B (setV_id S 0)) q3_79 cw_X2_overdrawn (hP.1 0 (by decide)).2.1.o rfl rfl rfl ⟨rfl, rfl, Nat.le_of_ble_eq_true rfl, Nat.le_of_ble_eq_true rfl⟩ _ rfl (Nat.le_of_ble_eq_true rfl) dX6_count_139 ?_
                  cases hF
                  exact hE _ _ dX6_count_142
                · have g_10 := sw_ne g_10 (n := 7) (by decide)
                  refine j_tableOut h 143 (by omega) (by decide) dX6_count_1 ?_
                  refine j_ldc h (v := -1000002) q1_239 dX6_count_143 ?_
                  cases hF
                  exact hE _ _ dX6_count_145
theorem c_X6_count (l : Launch) (D : va_G) (cI cZ cV : ClassId) {B : PS → va_W} {AD : Nat → Nat → Nat} (hP : IsPool cI cZ cV B AD) (S : PS) (p1 : Int32) {r : Int32} (hF : f_X6_count S p1 = some r) : CTi l D (jtys cI cZ cV) yX6_count cX6_count 2 (some .int) rmX6_count B [.ref (AD 12 7), .int p1] S r S := by
  refine CTi.of [(0, .ref (AD 12 7)), (1, .int p1)] rfl (Nat.le_of_ble_eq_true rfl) (by decide) ⟨rfl, rfl⟩ (fun X e1 e2 e3 e4 e5 e6 e7 h hE => ?_)
  subst e1; subst e2; subst e3; subst e4; subst e5; subst e6
  exact k_X6_count h hP e7 hE hF
abbrev rmX6_setting : Room := { frames := 2, cells := 0, slots := 0, locals := 42 }
theorem cw_X6_setting : CWv RX6 yX6_setting cX6_setting 2 (some .int) 1 := ⟨q3_72, q3_73, q1_1, q3_74, ⟨rfl, by decide +kernel, by decide +kernel, by decide +kernel⟩⟩
set_option maxHeartbeats 4000000 in
set_option maxRecDepth 100000 in
theorem k_X6_setting {X : JX PS} {AD : Nat → Nat → Nat} (h : OK X RX6 cX6_setting rmX6_setting) (hP : IsPool X.cI X.cZ X.cV X.B AD) (hnL : X.nL = 2) {res : Int32} {S : PS} {p1 : Int32} (hE : EXi X cX6_setting res S) (hF : f_X6_setting S p1 = some res) : J X 0 [(0, .ref (AD 12 7)), (1, .int p1)] [] S := by
  rw [f_X6_setting] at hF
  refine j_iload_n h 1 rfl rfl dX6_setting_0 ?_
  obtain ⟨r_1, hr_1, hF⟩ := bind_row hF
  refine j_callSz h (st := []) (S' := S) (c_X6_isSetting X.l X.D X.cI X.cZ X.cV (B := X.B) S p1 hr_1) rfl rfl q2_64 cw_X6_isSetting rfl ⟨rfl, rfl, Nat.le_of_ble_eq_true rfl, Nat.le_of_ble_eq_true rfl⟩ _ rfl (Nat.le_of_ble_eq_true rfl) dX6_setting_1 (fun hz_r_1 => ?_)
  refine j_if_eq h 19 (by decide) dX6_setting_4 hF (fun hF => ?_) (fun hF => ?_)
  · refine j_ldc h (v := -1000002) q1_239 dX6_setting_19 ?_
    cases hF
    exact hE _ _ dX6_setting_21
  · refine j_aload_n h 0 rfl rfl dX6_setting_7 ?_
    refine j_get h hP.2.2.2.2.2.1 inX6 rfl 0 (by decide) rfl q1_200 rfl dX6_setting_8 ?_
    refine j_get h (hP.1 0 (by decide)).2.2.2.2.1.o inX5 rfl 3 (by decide) rfl q1_124 rfl dX6_setting_11 ?_
    refine j_iload_n h 1 rfl rfl dX6_setting_14 ?_
    obtain ⟨hb_2, hF⟩ := bnd_row hF
    refine ja_iald h (get := fun S => S.1 0) (put := fun S v => setV S 0 v) ((hP.1 0 (by decide)).1 17 (by decide)) hb_2 dX6_setting_15 ?_
    refine j_goto h 21 (by decide) dX6_setting_16 ?_
    cases hF
    exact hE _ _ dX6_setting_21
theorem c_X6_setting (l : Launch) (D : va_G) (cI cZ cV : ClassId) {B : PS → va_W} {AD : Nat → Nat → Nat} (hP : IsPool cI cZ cV B AD) (S : PS) (p1 : Int32) {r : Int32} (hF : f_X6_setting S p1 = some r) : CTi l D (jtys cI cZ cV) yX6_setting cX6_setting 2 (some .int) rmX6_setting B [.ref (AD 12 7), .int p1] S r S := by
  refine CTi.of [(0, .ref (AD 12 7)), (1, .int p1)] rfl (Nat.le_of_ble_eq_true rfl) (by decide) ⟨rfl, rfl⟩ (fun X e1 e2 e3 e4 e5 e6 e7 h hE => ?_)
  subst e1; subst e2; subst e3; subst e4; subst e5; subst e6
  exact k_X6_setting h hP e7 hE hF
abbrev rmX6_met : Room := { frames := 1, cells := 0, slots := 0, locals := 23 }
theorem cw_X6_met : CWv RX6 yX6_met cX6_met 2 (some .double) 0 := ⟨q3_84, q3_85, q1_1, q3_86, ⟨rfl, by decide +kernel, by decide +kernel, by decide +kernel⟩⟩
set_option maxHeartbeats 4000000 in
set_option maxRecDepth 100000 in
theorem k_X6_met {X : JX PS} {AD : Nat → Nat → Nat} (h : OK X RX6 cX6_met rmX6_met) (hP : IsPool X.cI X.cZ X.cV X.B AD) (hnL : X.nL = 2) {res : UInt64} {S : PS} (hE : EXd X cX6_met res S) (hF : f_X6_met S = some res) : J X 0 [(0, .ref (AD 12 7))] [] S := by
  rw [f_X6_met] at hF
  refine j_aload_n h 0 rfl rfl dX6_met_0 ?_
  refine j_get h hP.2.2.2.2.2.1 inX6 rfl 0 (by decide) rfl q1_200 rfl dX6_met_1 ?_
  refine j_get h (hP.1 0 (by decide)).2.2.2.2.1.o inX5 rfl 0 (by decide) rfl q1_118 rfl dX6_met_4 ?_
  refine j_aload_n h 0 rfl rfl dX6_met_7 ?_
  refine j_get h hP.2.2.2.2.2.1 inX6 rfl 0 (by decide) rfl q1_200 rfl dX6_met_8 ?_
  refine j_get h (hP.1 0 (by decide)).2.2.2.2.1.o inX5 rfl 0 (by decide) rfl q1_118 rfl dX6_met_11 ?_
  refine j_get h (hP.1 0 (by decide)).2.1.o inX2 rfl 2 (by decide) rfl q1_36 rfl dX6_met_14 ?_
  obtain ⟨r_1, hr_1, hF⟩ := bind_row hF
  refine j_callVi h (st := []) (S' := S) (c_X2_sum X.l X.D X.cI X.cZ X.cV (hP.v S 0 (by decide)) (by decide) (S.1 0) hr_1) (congrArg X.B (setV_id S 0)) (congrArg X.B (setV_id S 0)) q3_87 cw_X2_sum (hP.1 0 (by decide)).2.1.o rfl rfl rfl ⟨rfl, rfl, Nat.le_of_ble_eq_true rfl, Nat.le_of_ble_eq_true rfl⟩ _ rfl (Nat.le_of_ble_eq_true rfl) dX6_met_17 ?_
  refine j_istore_n h hnL [(1, .int r_1), (0, .ref (AD 12 7))] rfl (by decide) rfl dX6_met_20 ?_
  refine j_iload_n h 0 rfl rfl dX6_met_21 ?_
  refine j_if_le h 52 (by decide) dX6_met_22 hF (fun hF => ?_) (fun hF => ?_)
  · refine j_dconst1 h dX6_met_52 ?_
    cases hF
    exact hE _ _ dX6_met_53
  · refine j_aload_n h 1 rfl rfl dX6_met_25 ?_
    refine j_get h hP.2.2.2.2.2.1 inX6 rfl 0 (by decide) rfl q1_200 rfl dX6_met_26 ?_
    refine j_get h (hP.1 0 (by decide)).2.2.2.2.1.o inX5 rfl 0 (by decide) rfl q1_118 rfl dX6_met_29 ?_
    refine j_aload_n h 1 rfl rfl dX6_met_32 ?_
    refine j_get h hP.2.2.2.2.2.1 inX6 rfl 0 (by decide) rfl q1_200 rfl dX6_met_33 ?_
    refine j_get h (hP.1 0 (by decide)).2.2.2.2.1.o inX5 rfl 0 (by decide) rfl q1_118 rfl dX6_met_36 ?_
    refine j_get h (hP.1 0 (by decide)).2.1.o inX2 rfl 6 (by decide) rfl q1_44 rfl dX6_met_39 ?_
    obtain ⟨r_2, hr_2, hF⟩ := bind_row hF
    refine j_callVi h (st := []) (S' := S) (c_X2_sum X.l X.D X.cI X.cZ X.cV (hP.v S 0 (by decide)) (by decide) (S.1 0) hr_2) (congrArg X.B (setV_id S 0)) (congrArg X.B (setV_id S 0)) q3_87 cw_X2_sum (hP.1 0 (by decide)).2.1.o rfl rfl rfl ⟨rfl, rfl, Nat.le_of_ble_eq_true rfl, Nat.le_of_ble_eq_true rfl⟩ _ rfl (Nat.le_of_ble_eq_true rfl) dX6_met_42 ?_
    refine j_i2d h dX6_met_45 ?_
    refine j_iload_n h 0 rfl rfl dX6_met_46 ?_
    refine j_i2d h dX6_met_47 ?_
    obtain ⟨hb_3, hF⟩ := bnd_row hF
    refine j_ddiv h (n64_v hb_3) dX6_met_48 ?_
    refine j_goto h 53 (by decide) dX6_met_49 ?_
    cases hF
    exact hE _ _ dX6_met_53
theorem c_X6_met (l : Launch) (D : va_G) (cI cZ cV : ClassId) {B : PS → va_W} {AD : Nat → Nat → Nat} (hP : IsPool cI cZ cV B AD) (S : PS) {r : UInt64} (hF : f_X6_met S = some r) : CTd l D (jtys cI cZ cV) yX6_met cX6_met 2 (some .double) rmX6_met B [.ref (AD 12 7)] S r S := by
  refine CTd.of [(0, .ref (AD 12 7))] rfl (Nat.le_of_ble_eq_true rfl) (by decide) ⟨rfl, rfl⟩ (fun X e1 e2 e3 e4 e5 e6 e7 h hE => ?_)
  subst e1; subst e2; subst e3; subst e4; subst e5; subst e6
  exact k_X6_met h hP e7 hE hF