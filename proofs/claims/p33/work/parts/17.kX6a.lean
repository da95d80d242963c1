abbrev rmX6_within : Room := { frames := 0, cells := 0, slots := 0, locals := 0 }
theorem cw_X6_within : CWs yX6_within cX6_within 3 (some .boolean) 3 := ⟨q1_237, q1_1, q1_238, ⟨by decide +kernel, by decide +kernel, by decide +kernel⟩⟩
set_option maxHeartbeats 4000000 in
set_option maxRecDepth 100000 in
theorem k_X6_within {τ : Type} {X : JX τ} (h : OK X RX6 cX6_within rmX6_within) (hnL : X.nL = 3) {res : Int32} {S : τ} {p1 : Int32} {p2 : Int32} {p3 : Int32} (hE : EXz X cX6_within res S) (hF : f_X6_within p1 p2 p3 = some res) : J X 0 [(0, .int p1), (1, .int p2), (2, .int p3)] [] S := by
  rw [f_X6_within] at hF
  refine j_iload_n h 0 rfl rfl dX6_within_0 ?_
  refine j_iload_n h 1 rfl rfl dX6_within_1 ?_
  refine j_icmp_lt h 14 (by decide) dX6_within_2 hF (fun hF => ?_) (fun hF => ?_)
  · refine j_iconst h (v := 0) (by decide) dX6_within_14 ?_
    cases hF
    exact hE _ _ dX6_within_15 (isB_v (y := (0 : Int32)) (by decide))
  · refine j_iload_n h 0 rfl rfl dX6_within_5 ?_
    refine j_iload_n h 2 rfl rfl dX6_within_6 ?_
    refine j_icmp_gt h 14 (by decide) dX6_within_7 hF (fun hF => ?_) (fun hF => ?_)
    · refine j_iconst h (v := 0) (by decide) dX6_within_14 ?_
      cases hF
      exact hE _ _ dX6_within_15 (isB_v (y := (0 : Int32)) (by decide))
    · refine j_iconst h (v := 1) (by decide) dX6_within_10 ?_
      refine j_goto h 15 (by decide) dX6_within_11 ?_
      cases hF
      exact hE _ _ dX6_within_15 (isB_v (y := (1 : Int32)) (by decide))
theorem c_X6_within (l : Launch) (D : va_G) (cI cZ cV : ClassId) {τ : Type} {B : τ → va_W} (S : τ) (p1 : Int32) (p2 : Int32) (p3 : Int32) {r : Int32} (hF : f_X6_within p1 p2 p3 = some r) : CTz l D (jtys cI cZ cV) yX6_within cX6_within 3 (some .boolean) rmX6_within B [.int p1, .int p2, .int p3] S r S := by
  refine CTz.of [(0, .int p1), (1, .int p2), (2, .int p3)] rfl (Nat.le_of_ble_eq_true rfl) (by decide) ⟨rfl, rfl⟩ (fun X e1 e2 e3 e4 e5 e6 e7 h hE => ?_)
  subst e1; subst e2; subst e3; subst e4; subst e5; subst e6
  exact k_X6_within h e7 hE hF
abbrev rmX6_addHouse : Room := { frames := 4, cells := 0, slots := 0, locals := 90 }
theorem cw_X6_addHouse : CWv RX6 yX6_addHouse cX6_addHouse 3 (some .int) 2 := ⟨q1_233, q1_234, q1_1, q1_235, ⟨rfl, by decide +kernel, by decide +kernel, by decide +kernel⟩⟩
set_option maxHeartbeats 4000000 in
set_option maxRecDepth 100000 in
theorem k_X6_addHouse {X : JX PS} {AD : Nat → Nat → Nat} (h : OK X RX6 cX6_addHouse rmX6_addHouse) (hP : IsPool X.cI X.cZ X.cV X.B AD) (hnL : X.nL = 3) {res : Int32 × PS} {S : PS} {p1 : Int32} {p2 : Int32} (hE : EXi X cX6_addHouse res.1 res.2) (hF : f_X6_addHouse S p1 p2 = some res) : J X 0 [(0, .ref (AD 12 7)), (1, .int p1), (2, .int p2)] [] S := by
  rw [f_X6_addHouse] at hF
  refine j_iload_n h 1 rfl rfl dX6_addHouse_0 ?_
  refine j_iconst h (v := 0) (by decide) dX6_addHouse_1 ?_
  refine j_iconst h (v := 2) (by decide) dX6_addHouse_2 ?_
  obtain ⟨r_1, hr_1, hF⟩ := bind_row hF
  refine j_callSz h (st := []) (S' := S) (c_X6_within X.l X.D X.cI X.cZ X.cV (B := X.B) S p1 (0 : Int32) (2 : Int32) hr_1) rfl rfl q1_236 cw_X6_within rfl ⟨rfl, rfl, Nat.le_of_ble_eq_true rfl, Nat.le_of_ble_eq_true rfl⟩ _ rfl (Nat.le_of_ble_eq_true rfl) dX6_addHouse_3 (fun hz_r_1 => ?_)
  refine j_if_eq h 19 (by decide) dX6_addHouse_6 hF (fun hF => ?_) (fun hF => ?_)
  · refine j_ldc h (v := -1000002) q1_239 dX6_addHouse_19 ?_
    cases hF
    exact hE _ _ dX6_addHouse_21
  · refine j_iload_n h 2 rfl rfl dX6_addHouse_9 ?_
    refine j_iconst h (v := 0) (by decide) dX6_addHouse_10 ?_
    refine j_bipush h (v := 50) (by decide) dX6_addHouse_11 ?_
    obtain ⟨r_2, hr_2, hF⟩ := bind_row hF
    refine j_callSz h (st := []) (S' := S) (c_X6_within X.l X.D X.cI X.cZ X.cV (B := X.B) S p2 (0 : Int32) (50 : Int32) hr_2) rfl rfl q1_236 cw_X6_within rfl ⟨rfl, rfl, Nat.le_of_ble_eq_true rfl, Nat.le_of_ble_eq_true rfl⟩ _ rfl (Nat.le_of_ble_eq_true rfl) dX6_addHouse_13 (fun hz_r_2 => ?_)
    refine j_if_ne h 22 (by decide) dX6_addHouse_16 hF (fun hF => ?_) (fun hF => ?_)
    · refine j_ldc h (v := -1000002) q1_239 dX6_addHouse_19 ?_
      cases hF
      exact hE _ _ dX6_addHouse_21
    · refine j_aload_n h 0 rfl rfl dX6_addHouse_22 ?_
      refine j_get h hP.2.2.2.2.2.1 inX6 rfl 0 (by decide) rfl q1_200 rfl dX6_addHouse_23 ?_
      refine j_get h (hP.1 0 (by decide)).2.2.2.2.1.o inX5 rfl 0 (by decide) rfl q1_118 rfl dX6_addHouse_26 ?_
      refine j_get h (hP.1 0 (by decide)).2.1.o inX2 rfl 0 (by decide) rfl q1_31 rfl dX6_addHouse_29 ?_
      refine j_bipush h (v := 10) (by decide) dX6_addHouse_32 ?_
      refine j_icmp_lt h 40 (by decide) dX6_addHouse_34 hF (fun hF => ?_) (fun hF => ?_)
      · refine j_aload_n h 0 rfl rfl dX6_addHouse_40 ?_
        refine j_get h hP.2.2.2.2.2.1 inX6 rfl 2 (by decide) rfl q1_202 rfl dX6_addHouse_41 ?_
        refine j_aload_n h 0 rfl rfl dX6_addHouse_44 ?_
        refine j_get h hP.2.2.2.2.2.1 inX6 rfl 0 (by decide) rfl q1_200 rfl dX6_addHouse_45 ?_
        obtain ⟨r_3, hr_3, hF⟩ := bind_row hF
        refine j_callVv h (st := []) (S' := r_3) (c_X1_record X.l X.D X.cI X.cZ X.cV hP (by decide) S hr_3) rfl rfl q2_1 cw_X1_record hP.2.2.2.1.o rfl rfl rfl ⟨rfl, rfl, Nat.le_of_ble_eq_true rfl, Nat.le_of_ble_eq_true rfl⟩ _ rfl (Nat.le_of_ble_eq_true rfl) dX6_addHouse_48 ?_
        refine j_aload_n h 0 rfl rfl dX6_addHouse_51 ?_
        refine j_get h hP.2.2.2.2.2.1 inX6 rfl 0 (by decide) rfl q1_200 rfl dX6_addHouse_52 ?_
        refine j_get h (hP.1 0 (by decide)).2.2.2.2.1.o inX5 rfl 0 (by decide) rfl q1_118 rfl dX6_addHouse_55 ?_
        refine j_iload_n h 1 rfl rfl dX6_addHouse_58 ?_
        refine j_iload_n h 2 rfl rfl dX6_addHouse_59 ?_
        obtain ⟨r_4, hr_4, hF⟩ := bind_row hF
        refine j_callVi h (st := []) (S' := (setV r_3 0 r_4.2)) (c_X2_add X.l X.D X.cI X.cZ X.cV (hP.v r_3 0 (by decide)) (r_3.1 0) p1 p2 hr_4) (congrArg X.B (setV_id r_3 0)) rfl q2_35 cw_X2_add (hP.1 0 (by decide)).2.1.o rfl rfl rfl ⟨rfl, rfl, Nat.le_of_ble_eq_true rfl, Nat.le_of_ble_eq_true rfl⟩ _ rfl (Nat.le_of_ble_eq_true rfl) dX6_addHouse_60 ?_
        refine j_letS hF (fun S_5 hF => ?_)
        cases hF
        exact hE _ _ dX6_addHouse_63
      · refine j_ldc h (v := -1000004) q2_0 dX6_addHouse_37 ?_
        cases hF
        exact hE _ _ dX6_addHouse_39
theorem c_X6_addHouse (l : Launch) (D : va_G) (cI cZ cV : ClassId) {B : PS → va_W} {AD : Nat → Nat → Nat} (hP : IsPool cI cZ cV B AD) (S : PS) (p1 : Int32) (p2 : Int32) {r : Int32 × PS} (hF : f_X6_addHouse S p1 p2 = some r) : CTi l D (jtys cI cZ cV) yX6_addHouse cX6_addHouse 3 (some .int) rmX6_addHouse B [.ref (AD 12 7), .int p1, .int p2] S r.1 r.2 := by
  refine CTi.of [(0, .ref (AD 12 7)), (1, .int p1), (2, .int p2)] rfl (Nat.le_of_ble_eq_true rfl) (by decide) ⟨rfl, rfl⟩ (fun X e1 e2 e3 e4 e5 e6 e7 h hE => ?_)
  subst e1; subst e2; subst e3; subst e4; subst e5; subst e6
  exact k_X6_addHouse h hP e7 hE hF
abbrev rmX6_isHouse : Room := { frames := 1, cells := 0, slots := 0, locals := 22 }
theorem cw_X6_isHouse : CWv RX6 yX6_isHouse cX6_isHouse 2 (some .boolean) 1 := ⟨q2_48, qs1, q1_1, q2_49, ⟨rfl, by decide +kernel, by decide +kernel, by decide +kernel⟩⟩
set_option maxHeartbeats 4000000 in
set_option maxRecDepth 100000 in
theorem k_X6_isHouse {X : JX PS} {AD : Nat → Nat → Nat} (h : OK X RX6 cX6_isHouse rmX6_isHouse) (hP : IsPool X.cI X.cZ X.cV X.B AD) (hnL : X.nL = 2) {res : Int32} {S : PS} {p1 : Int32} (hE : EXz X cX6_isHouse res S) (hF : f_X6_isHouse S p1 = some res) : J X 0 [(0, .ref (AD 12 7)), (1, .int p1)] [] S := by
  rw [f_X6_isHouse] at hF
  refine j_iload_n h 1 rfl rfl dX6_isHouse_0 ?_
  refine j_iconst h (v := 0) (by decide) dX6_isHouse_1 ?_
  refine j_aload_n h 0 rfl rfl dX6_isHouse_2 ?_
  refine j_get h hP.2.2.2.2.2.1 inX6 rfl 0 (by decide) rfl q1_200 rfl dX6_isHouse_3 ?_
  refine j_get h (hP.1 0 (by decide)).2.2.2.2.1.o inX5 rfl 0 (by decide) rfl q1_118 rfl dX6_isHouse_6 ?_
  refine j_get h (hP.1 0 (by decide)).2.1.o inX2 rfl 0 (by decide) rfl q1_31 rfl dX6_isHouse_9 ?_
  refine j_iconst h (v := 1) (by decide) dX6_isHouse_12 ?_
  refine j_isub h dX6_isHouse_13 ?_
  obtain ⟨r_1, hr_1, hF⟩ := bind_row hF
  refine j_callSz h (st := []) (S' := S) (c_X6_within X.l X.D X.cI X.cZ X.cV (B := X.B) S p1 (0 : Int32) (((S.1 0) 22 0) - (1 : Int32)) hr_1) rfl rfl q1_236 cw_X6_within rfl ⟨rfl, rfl, Nat.le_of_ble_eq_true rfl, Nat.le_of_ble_eq_true rfl⟩ _ rfl (Nat.le_of_ble_eq_true rfl) dX6_isHouse_14 (fun hz_r_1 => ?_)
  cases hF
  exact hE _ _ dX6_isHouse_17 (by assumption)
theorem c_X6_isHouse (l : Launch) (D : va_G) (cI cZ cV : ClassId) {B : PS → va_W} {AD : Nat → Nat → Nat} (hP : IsPool cI cZ cV B AD) (S : PS) (p1 : Int32) {r : Int32} (hF : f_X6_isHouse S p1 = some r) : CTz l D (jtys cI cZ cV) yX6_isHouse cX6_isHouse 2 (some .boolean) rmX6_isHouse B [.ref (AD 12 7), .int p1] S r S := by
  refine CTz.of [(0, .ref (AD 12 7)), (1, .int p1)] rfl (Nat.le_of_ble_eq_true rfl) (by decide) ⟨rfl, rfl⟩ (fun X e1 e2 e3 e4 e5 e6 e7 h hE => ?_)
  subst e1; subst e2; subst e3; subst e4; subst e5; subst e6
  exact k_X6_isHouse h hP e7 hE hF
abbrev rmX6_setHouse : Room := { frames := 4, cells := 0, slots := 0, locals := 90 }
theorem cw_X6_setHouse : CWv RX6 yX6_setHouse cX6_setHouse 5 (some .int) 3 := ⟨q2_43, q2_44, q1_1, q2_45, ⟨rfl, by decide +kernel, by decide +kernel, by decide +kernel⟩⟩
set_option maxHeartbeats 4000000 in
set_option maxRecDepth 100000 in
theorem k_X6_setHouse {X : JX PS} {AD : Nat → Nat → Nat} {t : Nat → Nat} (h : OK X RX6 cX6_setHouse rmX6_setHouse) (hP : IsPool X.cI X.cZ X.cV X.B AD) (hSt : Stat t X.A X.s X.s.heap) (hnL : X.nL = 5) {res : Int32 × PS} {S : PS} {p1 : Int32} {p2 : Int32} {p3 : Int32} (hE : EXi X cX6_setHouse res.1 res.2) (hF : f_X6_setHouse S p1 p2 p3 = some res) : J X 0 [(0, .ref (AD 12 7)), (1, .int p1), (2, .int p2), (3, .int p3)] [] S := by
  rw [f_X6_setHouse] at hF
  refine j_aload_n h 0 rfl rfl dX6_setHouse_0 ?_
  refine j_iload_n h 1 rfl rfl dX6_setHouse_1 ?_
  obtain ⟨r_1, hr_1, hF⟩ := bind_row hF
  refine j_callVz h (st := []) (S' := S) (c_X6_isHouse X.l X.D X.cI X.cZ X.cV hP S p1 hr_1) rfl rfl q2_46 cw_X6_isHouse hP.2.2.2.2.2.1 rfl rfl rfl ⟨rfl, rfl, Nat.le_of_ble_eq_true rfl, Nat.le_of_ble_eq_true rfl⟩ _ rfl (Nat.le_of_ble_eq_true rfl) dX6_setHouse_2 (fun hz_r_1 => ?_)
  refine j_if_eq h 30 (by decide) dX6_setHouse_5 hF (fun hF => ?_) (fun hF => ?_)
  · refine j_ldc h (v := -1000002) q1_239 dX6_setHouse_30 ?_
    cases hF
    exact hE _ _ dX6_setHouse_32
  · refine j_iload_n h 2 rfl rfl dX6_setHouse_8 ?_
    refine j_iconst h (v := 0) (by decide) dX6_setHouse_9 ?_
    refine j_iconst h (v := 3) (by decide) dX6_setHouse_10 ?_
    obtain ⟨r_2, hr_2, hF⟩ := bind_row hF
    refine j_callSz h (st := []) (S' := S) (c_X6_within X.l X.D X.cI X.cZ X.cV (B := X.B) S p2 (0 : Int32) (3 : Int32) hr_2) rfl rfl q1_236 cw_X6_within rfl ⟨rfl, rfl, Nat.le_of_ble_eq_true rfl, Nat.le_of_ble_eq_true rfl⟩ _ rfl (Nat.le_of_ble_eq_true rfl) dX6_setHouse_11 (fun hz_r_2 => ?_)
    refine j_if_eq h 30 (by decide) dX6_setHouse_14 hF (fun hF => ?_) (fun hF => ?_)
    · refine j_ldc h (v := -1000002) q1_239 dX6_setHouse_30 ?_
      cases hF
      exact hE _ _ dX6_setHouse_32
    · refine j_iload_n h 3 rfl rfl dX6_setHouse_17 ?_
      refine j_iconst h (v := 0) (by decide) dX6_setHouse_18 ?_
      refine j_gets h hSt.1.1 q2_50 dX6_setHouse_19 ?_
      refine j_iload_n h 2 rfl rfl dX6_setHouse_22 ?_
      obtain ⟨hb_3, hF⟩ := bnd_row hF
      refine j_sald h hSt.1.2 hb_3 dX6_setHouse_23 ?_
      obtain ⟨r_4, hr_4, hF⟩ := bind_row hF
      refine j_callSz h (st := []) (S' := S) (c_X6_within X.l X.D X.cI X.cZ X.cV (B := X.B) S p3 (0 : Int32) (stHM p2.toNatClampNeg) hr_4) rfl rfl q1_236 cw_X6_within rfl ⟨rfl, rfl, Nat.le_of_ble_eq_true rfl, Nat.le_of_ble_eq_true rfl⟩ _ rfl (Nat.le_of_ble_eq_true rfl) dX6_setHouse_24 (fun hz_r_4 => ?_)
      refine j_if_ne h 33 (by decide) dX6_setHouse_27 hF (fun hF => ?_) (fun hF => ?_)
      · refine j_ldc h (v := -1000002) q1_239 dX6_setHouse_30 ?_
        cases hF
        exact hE _ _ dX6_setHouse_32
      · refine j_aload_n h 0 rfl rfl dX6_setHouse_33 ?_
        refine j_get h hP.2.2.2.2.2.1 inX6 rfl 2 (by decide) rfl q1_202 rfl dX6_setHouse_34 ?_
        refine j_aload_n h 0 rfl rfl dX6_setHouse_37 ?_
        refine j_get h hP.2.2.2.2.2.1 inX6 rfl 0 (by decide) rfl q1_200 rfl dX6_setHouse_38 ?_
        obtain ⟨r_5, hr_5, hF⟩ := bind_row hF
        refine j_callVv h (st := []) (S' := r_5) (c_X1_record X.l X.D X.cI X.cZ X.cV hP (by decide) S hr_5) rfl rfl q2_1 cw_X1_record hP.2.2.2.1.o rfl rfl rfl ⟨rfl, rfl, Nat.le_of_ble_eq_true rfl, Nat.le_of_ble_eq_true rfl⟩ _ rfl (Nat.le_of_ble_eq_true rfl) dX6_setHouse_41 ?_
        refine j_aload_n h 0 rfl rfl dX6_setHouse_44 ?_
        refine j_get h hP.2.2.2.2.2.1 inX6 rfl 0 (by decide) rfl q1_200 rfl dX6_setHouse_45 ?_
        refine j_get h (hP.1 0 (by decide)).2.2.2.2.1.o inX5 rfl 0 (by decide) rfl q1_118 rfl dX6_setHouse_48 ?_
        refine j_iload_n h 1 rfl rfl dX6_setHouse_51 ?_
        refine j_iload_n h 2 rfl rfl dX6_setHouse_52 ?_
        obtain ⟨r_6, hr_6, hF⟩ := bind_row hF
        refine j_callVi h (st := []) (S' := r_5) (c_X2_told X.l X.D X.cI X.cZ X.cV (hP.v r_5 0 (by decide)) (r_5.1 0) p1 p2 hr_6) (congrArg X.B (setV_id r_5 0)) (congrArg X.B (setV_id r_5 0)) q2_52 cw_X2_told (hP.1 0 (by decide)).2.1.o rfl rfl rfl ⟨rfl, rfl, Nat.le_of_ble_eq_true rfl, Nat.le_of_ble_eq_true rfl⟩ _ rfl (Nat.le_of_ble_eq_true rfl) dX6_setHouse_53 ?_
        refine j_istore h hnL [(4, .int r_6), (0, .ref (AD 12 7)), (1, .int p1), (2, .int p2), (3, .int p3)] (by decide) rfl dX6_setHouse_56 ?_
        refine j_aload_n h 1 rfl rfl dX6_setHouse_58 ?_
        refine j_get h hP.2.2.2.2.2.1 inX6 rfl 0 (by decide) rfl q1_200 rfl dX6_setHouse_59 ?_
        refine j_get h (hP.1 0 (by decide)).2.2.2.2.1.o inX5 rfl 0 (by decide) rfl q1_118 rfl dX6_setHouse_62 ?_
        refine j_iload_n h 2 rfl rfl dX6_setHouse_65 ?_
        refine j_iload_n h 3 rfl rfl dX6_setHouse_66 ?_
        refine j_iload_n h 4 rfl rfl dX6_setHouse_67 ?_
        obtain ⟨r_7, hr_7, hF⟩ := bind_row hF
        refine j_callVv h (st := []) (S' := (setV r_5 0 r_7)) (c_X2_change X.l X.D X.cI X.cZ X.cV (hP.v r_5 0 (by decide)) (r_5.1 0) p1 p2 p3 hr_7) (congrArg X.B (setV_id r_5 0)) rfl q2_56 cw_X2_change (hP.1 0 (by decide)).2.1.o rfl rfl rfl ⟨rfl, rfl, Nat.le_of_ble_eq_true rfl, Nat.le_of_ble_eq_true rfl⟩ _ rfl (Nat.le_of_ble_eq_true rfl) dX6_setHouse_68 ?_
        refine j_letS hF (fun S_8 hF => ?_)
        refine j_iload h 0 rfl dX6_setHouse_71 ?_
        cases hF
        exact hE _ _ dX6_setHouse_73
theorem c_X6_setHouse (l : Launch) (D : va_G) (cI cZ cV : ClassId) {t : Nat → Nat} {B : PS → va_W} {AD : Nat → Nat → Nat} (hP : IsPool cI cZ cV B AD) (S : PS) (p1 : Int32) (p2 : Int32) (p3 : Int32) {r : Int32 × PS} (hF : f_X6_setHouse S p1 p2 p3 = some r) : CTis t l D (jtys cI cZ cV) yX6_setHouse cX6_setHouse 5 (some .int) rmX6_setHouse B [.ref (AD 12 7), .int p1, .int p2, .int p3] S r.1 r.2 := by
  refine CTis.of [(0, .ref (AD 12 7)), (1, .int p1), (2, .int p2), (3, .int p3)] rfl (Nat.le_of_ble_eq_true rfl) (by decide) ⟨rfl, rfl⟩ (fun X e1 e2 e3 e4 e5 e6 e7 h hSt hE => ?_)
  subst e1; subst e2; subst e3; subst e4; subst e5; subst e6
  exact k_X6_setHouse h hP hSt e7 hE hF
abbrev rmX6_buy : Room := { frames := 4, cells := 0, slots := 0, locals := 92 }
theorem cw_X6_buy : CWv RX6 yX6_buy cX6_buy 3 (some .int) 2 := ⟨q2_115, q2_116, q1_1, q2_117, ⟨rfl, by decide +kernel, by decide +kernel, by decide +kernel⟩⟩
set_option maxHeartbeats 4000000 in
set_option maxRecDepth 100000 in
theorem k_X6_buy {X : JX PS} {AD : Nat → Nat → Nat} (h : OK X RX6 cX6_buy rmX6_buy) (hP : IsPool X.cI X.cZ X.cV X.B AD) (hnL : X.nL = 3) {res : Int32 × PS} {S : PS} {p1 : Int32} {p2 : Int32} (hE : EXi X cX6_buy res.1 res.2) (hF : f_X6_buy S p1 p2 = some res) : J X 0 [(0, .ref (AD 12 7)), (1, .int p1), (2, .int p2)] [] S := by
  rw [f_X6_buy] at hF
  refine j_aload_n h 0 rfl rfl dX6_buy_0 ?_
  refine j_iload_n h 1 rfl rfl dX6_buy_1 ?_
  obtain ⟨r_1, hr_1, hF⟩ := bind_row hF
  refine j_callVz h (st := []) (S' := S) (c_X6_isHouse X.l X.D X.cI X.cZ X.cV hP S p1 hr_1) rfl rfl q2_46 cw_X6_isHouse hP.2.2.2.2.2.1 rfl rfl rfl ⟨rfl, rfl, Nat.le_of_ble_eq_true rfl, Nat.le_of_ble_eq_true rfl⟩ _ rfl (Nat.le_of_ble_eq_true rfl) dX6_buy_2 (fun hz_r_1 => ?_)
  refine j_if_eq h 19 (by decide) dX6_buy_5 hF (fun hF => ?_) (fun hF => ?_)
  · refine j_ldc h (v := -1000002) q1_239 dX6_buy_19 ?_
    cases hF
    exact hE _ _ dX6_buy_21
  · refine j_iload_n h 2 rfl rfl dX6_buy_8 ?_
    refine j_iconst h (v := 1) (by decide) dX6_buy_9 ?_
    refine j_sipush h (v := 500) (by decide) dX6_buy_10 ?_
    obtain ⟨r_2, hr_2, hF⟩ := bind_row hF
    refine j_callSz h (st := []) (S' := S) (c_X6_within X.l X.D X.cI X.cZ X.cV (B := X.B) S p2 (1 : Int32) (500 : Int32) hr_2) rfl rfl q1_236 cw_X6_within rfl ⟨rfl, rfl, Nat.le_of_ble_eq_true rfl, Nat.le_of_ble_eq_true rfl⟩ _ rfl (Nat.le_of_ble_eq_true rfl) dX6_buy_13 (fun hz_r_2 => ?_)
    refine j_if_ne h 22 (by decide) dX6_buy_16 hF (fun hF => ?_) (fun hF => ?_)
    · refine j_ldc h (v := -1000002) q1_239 dX6_buy_19 ?_
      cases hF
      exact hE _ _ dX6_buy_21
    · refine j_aload_n h 0 rfl rfl dX6_buy_22 ?_
      refine j_get h hP.2.2.2.2.2.1 inX6 rfl 2 (by decide) rfl q1_202 rfl dX6_buy_23 ?_
      refine j_aload_n h 0 rfl rfl dX6_buy_26 ?_
      refine j_get h hP.2.2.2.2.2.1 inX6 rfl 0 (by decide) rfl q1_200 rfl dX6_buy_27 ?_
      obtain ⟨r_3, hr_3, hF⟩ := bind_row hF
      refine j_callVv h (st := []) (S' := r_3) (c_X1_record X.l X.D X.cI X.cZ X.cV hP (by decide) S hr_3) rfl rfl q2_1 cw_X1_record hP.2.2.2.1.o rfl rfl rfl ⟨rfl, rfl, Nat.le_of_ble_eq_true rfl, Nat.le_of_ble_eq_true rfl⟩ _ rfl (Nat.le_of_ble_eq_true rfl) dX6_buy_30 ?_
      refine j_aload_n h 0 rfl rfl dX6_buy_33 ?_
      refine j_get h hP.2.2.2.2.2.1 inX6 rfl 0 (by decide) rfl q1_200 rfl dX6_buy_34 ?_
      refine j_iload_n h 1 rfl rfl dX6_buy_37 ?_
      refine j_iload_n h 2 rfl rfl dX6_buy_38 ?_
      obtain ⟨r_4, hr_4, hF⟩ := bind_row hF
      refine j_callVv h (st := []) (S' := (setV r_3 0 r_4)) (c_X5_takeToken X.l X.D X.cI X.cZ X.cV (hP.v r_3 0 (by decide)) (r_3.1 0) p1 p2 hr_4) (congrArg X.B (setV_id r_3 0)) rfl q2_118 cw_X5_takeToken (hP.1 0 (by decide)).2.2.2.2.1.o rfl rfl rfl ⟨rfl, rfl, Nat.le_of_ble_eq_true rfl, Nat.le_of_ble_eq_true rfl⟩ _ rfl (Nat.le_of_ble_eq_true rfl) dX6_buy_39 ?_
      refine j_letS hF (fun S_5 hF => ?_)
      refine j_aload_n h 0 rfl rfl dX6_buy_42 ?_
      refine j_get h hP.2.2.2.2.2.1 inX6 rfl 0 (by decide) rfl q1_200 rfl dX6_buy_43 ?_
      refine j_get h (hP.1 0 (by decide)).2.2.2.2.1.o inX5 rfl 0 (by decide) rfl q1_118 rfl dX6_buy_46 ?_
      refine j_get h (hP.1 0 (by decide)).2.1.o inX2 rfl 5 (by decide) rfl q1_41 rfl dX6_buy_49 ?_
      refine j_iload_n h 1 rfl rfl dX6_buy_52 ?_
      obtain ⟨hb_6, hF⟩ := bnd_row hF
      refine ja_iald h (get := fun S => S.1 0) (put := fun S v => setV S 0 v) ((hP.1 0 (by decide)).1 4 (by decide)) hb_6 dX6_buy_53 ?_
      cases hF
      exact hE _ _ dX6_buy_54
theorem c_X6_buy (l : Launch) (D : va_G) (cI cZ cV : ClassId) {B : PS → va_W} {AD : Nat → Nat → Nat} (hP : IsPool cI cZ cV B AD) (S : PS) (p1 : Int32) (p2 : Int32) {r : Int32 × PS} (hF : f_X6_buy S p1 p2 = some r) : CTi l D (jtys cI cZ cV) yX6_buy cX6_buy 3 (some .int) rmX6_buy B [.ref (AD 12 7), .int p1, .int p2] S r.1 r.2 := by
  refine CTi.of [(0, .ref (AD 12 7)), (1, .int p1), (2, .int p2)] rfl (Nat.le_of_ble_eq_true rfl) (by decide) ⟨rfl, rfl⟩ (fun X e1 e2 e3 e4 e5 e6 e7 h hE => ?_)
  subst e1; subst e2; subst e3; subst e4; subst e5; subst e6
  exact k_X6_buy h hP e7 hE hF
abbrev rmX6_lend : Room := { frames := 4, cells := 0, slots := 0, locals := 90 }
theorem cw_X6_lend : CWv RX6 yX6_lend cX6_lend 4 (some .int) 3 := ⟨q2_155, q2_156, q1_1, q2_157, ⟨rfl, by decide +kernel, by decide +kernel, by decide +kernel⟩⟩
set_option maxHeartbeats 4000000 in
set_option maxRecDepth 100000 in
theorem k_X6_lend {X : JX PS} {AD : Nat → Nat → Nat} (h : OK X RX6 cX6_lend rmX6_lend) (hP : IsPool X.cI X.cZ X.cV X.B AD) (hnL : X.nL = 4) {res : Int32 × PS} {S : PS} {p1 : Int32} {p2 : Int32} {p3 : Int32} (hE : EXi X cX6_lend res.1 res.2) (hF : f_X6_lend S p1 p2 p3 = some res) : J X 0 [(0, .ref (AD 12 7)), (1, .int p1), (2, .int p2), (3, .int p3)] [] S := by
  rw [f_X6_lend] at hF
  refine j_aload_n h 0 rfl rfl dX6_lend_0 ?_
  refine j_iload_n h 1 rfl rfl dX6_lend_1 ?_
  obtain ⟨r_1, hr_1, hF⟩ := bind_row hF
  refine j_callVz h (st := []) (S' := S) (c_X6_isHouse X.l X.D X.cI X.cZ X.cV hP S p1 hr_1) rfl rfl q2_46 cw_X6_isHouse hP.2.2.2.2.2.1 rfl rfl rfl ⟨rfl, rfl, Nat.le_of_ble_eq_true rfl, Nat.le_of_ble_eq_true rfl⟩ _ rfl (Nat.le_of_ble_eq_true rfl) dX6_lend_2 (fun hz_r_1 => ?_)
  refine j_if_eq h 32 (by decide) dX6_lend_5 hF (fun hF => ?_) (fun hF => ?_)
  · refine j_ldc h (v := -1000002) q1_239 dX6_lend_32 ?_
    cases hF
    exact hE _ _ dX6_lend_34
  · refine j_aload_n h 0 rfl rfl dX6_lend_8 ?_
    refine j_iload_n h 2 rfl rfl dX6_lend_9 ?_
    obtain ⟨r_2, hr_2, hF⟩ := bind_row hF
    refine j_callVz h (st := []) (S' := S) (c_X6_isHouse X.l X.D X.cI X.cZ X.cV hP S p2 hr_2) rfl rfl q2_46 cw_X6_isHouse hP.2.2.2.2.2.1 rfl rfl rfl ⟨rfl, rfl, Nat.le_of_ble_eq_true rfl, Nat.le_of_ble_eq_true rfl⟩ _ rfl (Nat.le_of_ble_eq_true rfl) dX6_lend_10 (fun hz_r_2 => ?_)
    refine j_if_eq h 32 (by decide) dX6_lend_13 hF (fun hF => ?_) (fun hF => ?_)
    · refine j_ldc h (v := -1000002) q1_239 dX6_lend_32 ?_
      cases hF
      exact hE _ _ dX6_lend_34
    · refine j_iload_n h 1 rfl rfl dX6_lend_16 ?_
      refine j_iload_n h 2 rfl rfl dX6_lend_17 ?_
      refine j_icmp_eq h 32 (by decide) dX6_lend_18 hF (fun hF => ?_) (fun hF => ?_)
      · refine j_ldc h (v := -1000002) q1_239 dX6_lend_32 ?_
        cases hF
        exact hE _ _ dX6_lend_34
      · refine j_iload_n h 3 rfl rfl dX6_lend_21 ?_
        refine j_iconst h (v := 1) (by decide) dX6_lend_22 ?_
        refine j_sipush h (v := 200) (by decide) dX6_lend_23 ?_
        obtain ⟨r_3, hr_3, hF⟩ := bind_row hF
        refine j_callSz h (st := []) (S' := S) (c_X6_within X.l X.D X.cI X.cZ X.cV (B := X.B) S p3 (1 : Int32) (200 : Int32) hr_3) rfl rfl q1_236 cw_X6_within rfl ⟨rfl, rfl, Nat.le_of_ble_eq_true rfl, Nat.le_of_ble_eq_true rfl⟩ _ rfl (Nat.le_of_ble_eq_true rfl) dX6_lend_26 (fun hz_r_3 => ?_)
        refine j_if_ne h 35 (by decide) dX6_lend_29 hF (fun hF => ?_) (fun hF => ?_)
        · refine j_ldc h (v := -1000002) q1_239 dX6_lend_32 ?_
          cases hF
          exact hE _ _ dX6_lend_34
        · refine j_aload_n h 0 rfl rfl dX6_lend_35 ?_
          refine j_get h hP.2.2.2.2.2.1 inX6 rfl 0 (by decide) rfl q1_200 rfl dX6_lend_36 ?_
          refine j_get h (hP.1 0 (by decide)).2.2.2.2.1.o inX5 rfl 0 (by decide) rfl q1_118 rfl dX6_lend_39 ?_
          refine j_get h (hP.1 0 (by decide)).2.1.o inX2 rfl 5 (by decide) rfl q1_41 rfl dX6_lend_42 ?_
          refine j_iload_n h 1 rfl rfl dX6_lend_45 ?_
          obtain ⟨hb_4, hF⟩ := bnd_row hF
          refine ja_iald h (get := fun S => S.1 0) (put := fun S v => setV S 0 v) ((hP.1 0 (by decide)).1 4 (by decide)) hb_4 dX6_lend_46 ?_
          refine j_iload_n h 3 rfl rfl dX6_lend_47 ?_
          refine j_icmp_ge h 54 (by decide) dX6_lend_48 hF (fun hF => ?_) (fun hF => ?_)
          · refine j_aload_n h 0 rfl rfl dX6_lend_54 ?_
            refine j_get h hP.2.2.2.2.2.1 inX6 rfl 0 (by decide) rfl q1_200 rfl dX6_lend_55 ?_
            refine j_get h (hP.1 0 (by decide)).2.2.2.2.1.o inX5 rfl 1 (by decide) rfl q1_120 rfl dX6_lend_58 ?_
            refine j_get h (hP.1 0 (by decide)).2.2.1.o inX4 rfl 0 (by decide) rfl q1_81 rfl dX6_lend_61 ?_
            refine j_bipush h (v := 12) (by decide) dX6_lend_64 ?_
            refine j_icmp_lt h 72 (by decide) dX6_lend_66 hF (fun hF => ?_) (fun hF => ?_)
            · refine j_aload_n h 0 rfl rfl dX6_lend_72 ?_
              refine j_get h hP.2.2.2.2.2.1 inX6 rfl 2 (by decide) rfl q1_202 rfl dX6_lend_73 ?_
              refine j_aload_n h 0 rfl rfl dX6_lend_76 ?_
              refine j_get h hP.2.2.2.2.2.1 inX6 rfl 0 (by decide) rfl q1_200 rfl dX6_lend_77 ?_
              obtain ⟨r_5, hr_5, hF⟩ := bind_row hF
              refine j_callVv h (st := []) (S' := r_5) (c_X1_record X.l X.D X.cI X.cZ X.cV hP (by decide) S hr_5) rfl rfl q2_1 cw_X1_record hP.2.2.2.1.o rfl rfl rfl ⟨rfl, rfl, Nat.le_of_ble_eq_true rfl, Nat.le_of_ble_eq_true rfl⟩ _ rfl (Nat.le_of_ble_eq_true rfl) dX6_lend_80 ?_
              refine j_aload_n h 0 rfl rfl dX6_lend_83 ?_
              refine j_get h hP.2.2.2.2.2.1 inX6 rfl 0 (by decide) rfl q1_200 rfl dX6_lend_84 ?_
              refine j_get h (hP.1 0 (by decide)).2.2.2.2.1.o inX5 rfl 0 (by decide) rfl q1_118 rfl dX6_lend_87 ?_
              refine j_get h (hP.1 0 (by decide)).2.1.o inX2 rfl 5 (by decide) rfl q1_41 rfl dX6_lend_90 ?_
              refine j_iload_n h 1 rfl rfl dX6_lend_93 ?_
              refine j_dup2 h rfl rfl dX6_lend_94 ?_
              obtain ⟨hb_6, hF⟩ := bnd_row hF
              refine ja_iald h (get := fun S => S.1 0) (put := fun S v => setV S 0 v) ((hP.1 0 (by decide)).1 4 (by decide)) hb_6 dX6_lend_95 ?_
              refine j_iload_n h 3 rfl rfl dX6_lend_96 ?_
              refine j_isub h dX6_lend_97 ?_
              obtain ⟨hb_7, hF⟩ := bnd_row hF
              refine ja_iast h (get := fun S => S.1 0) (put := fun S v => setV S 0 v) ((hP.1 0 (by decide)).1 4 (by decide)) hb_7 dX6_lend_98 ?_
              refine j_letS hF (fun S_8 hF => ?_)
              refine j_aload_n h 0 rfl rfl dX6_lend_99 ?_
              refine j_get h hP.2.2.2.2.2.1 inX6 rfl 0 (by decide) rfl q1_200 rfl dX6_lend_100 ?_
              refine j_get h (hP.1 0 (by decide)).2.2.2.2.1.o inX5 rfl 0 (by decide) rfl q1_118 rfl dX6_lend_103 ?_
              refine j_get h (hP.1 0 (by decide)).2.1.o inX2 rfl 5 (by decide) rfl q1_41 rfl dX6_lend_106 ?_
              refine j_iload_n h 2 rfl rfl dX6_lend_109 ?_
              refine j_dup2 h rfl rfl dX6_lend_110 ?_
              obtain ⟨hb_9, hF⟩ := bnd_row hF
              refine ja_iald h (get := fun S => S.1 0) (put := fun S v => setV S 0 v) ((hP.1 0 (by decide)).1 4 (by decide)) hb_9 dX6_lend_111 ?_
              refine j_iload_n h 3 rfl rfl dX6_lend_112 ?_
              refine j_iadd h dX6_lend_113 ?_
              obtain ⟨hb_10, hF⟩ := bnd_row hF
              refine ja_iast h (get := fun S => S.1 0) (put := fun S v => setV S 0 v) ((hP.1 0 (by decide)).1 4 (by decide)) hb_10 dX6_lend_114 ?_
              refine j_letS hF (fun S_11 hF => ?_)
              refine j_aload_n h 0 rfl rfl dX6_lend_115 ?_
              refine j_get h hP.2.2.2.2.2.1 inX6 rfl 0 (by decide) rfl q1_200 rfl dX6_lend_116 ?_
              refine j_get h (hP.1 0 (by decide)).2.2.2.2.1.o inX5 rfl 1 (by decide) rfl q1_120 rfl dX6_lend_119 ?_
              refine j_iload_n h 1 rfl rfl dX6_lend_122 ?_
              refine j_iload_n h 2 rfl rfl dX6_lend_123 ?_
              refine j_iload_n h 3 rfl rfl dX6_lend_124 ?_
              obtain ⟨r_12, hr_12, hF⟩ := bind_row hF
              refine j_callVv h (st := []) (S' := (setV S_11 0 r_12)) (c_X4_add X.l X.D X.cI X.cZ X.cV (hP.v S_11 0 (by decide)) (S_11.1 0) p1 p2 p3 hr_12) (congrArg X.B (setV_id S_11 0)) rfl q2_159 cw_X4_add (hP.1 0 (by decide)).2.2.1.o rfl rfl rfl ⟨rfl, rfl, Nat.le_of_ble_eq_true rfl, Nat.le_of_ble_eq_true rfl⟩ _ rfl (Nat.le_of_ble_eq_true rfl) dX6_lend_125 ?_
              refine j_letS hF (fun S_13 hF => ?_)
              refine j_aload_n h 0 rfl rfl dX6_lend_128 ?_
              refine j_get h hP.2.2.2.2.2.1 inX6 rfl 0 (by decide) rfl q1_200 rfl dX6_lend_129 ?_
              refine j_get h (hP.1 0 (by decide)).2.2.2.2.1.o inX5 rfl 1 (by decide) rfl q1_120 rfl dX6_lend_132 ?_
              refine j_get h (hP.1 0 (by decide)).2.2.1.o inX4 rfl 0 (by decide) rfl q1_81 rfl dX6_lend_135 ?_
              cases hF
              exact hE _ _ dX6_lend_138
            · refine j_ldc h (v := -1000004) q2_0 dX6_lend_69 ?_
              cases hF
              exact hE _ _ dX6_lend_71
          · refine j_ldc h (v := -1000003) q2_158 dX6_lend_51 ?_
            cases hF
            exact hE _ _ dX6_lend_53
theorem c_X6_lend (l : Launch) (D : va_G) (cI cZ cV : ClassId) {B : PS → va_W} {AD : Nat → Nat → Nat} (hP : IsPool cI cZ cV B AD) (S : PS) (p1 : Int32) (p2 : Int32) (p3 : Int32) {r : Int32 × PS} (hF : f_X6_lend S p1 p2 p3 = some r) : CTi l D (jtys cI cZ cV) yX6_lend cX6_lend 4 (some .int) rmX6_lend B [.ref (AD 12 7), .int p1, .int p2, .int p3] S r.1 r.2 := by
  refine CTi.of [(0, .ref (AD 12 7)), (1, .int p1), (2, .int p2), (3, .int p3)] rfl (Nat.le_of_ble_eq_true rfl) (by decide) ⟨rfl, rfl⟩ (fun X e1 e2 e3 e4 e5 e6 e7 h hE => ?_)
  subst e1; subst e2; subst e3; subst e4; subst e5; subst e6
  exact k_X6_lend h hP e7 hE hF
abbrev rmX6_isSetting : Room := { frames := 1, cells := 0, slots := 0, locals := 22 }
theorem cw_X6_isSetting : CWs yX6_isSetting cX6_isSetting 1 (some .boolean) 1 := ⟨q2_65, q1_1, q2_66, ⟨by decide +kernel, by decide +kernel, by decide +kernel⟩⟩
set_option maxHeartbeats 4000000 in
set_option maxRecDepth 100000 in
theorem k_X6_isSetting {τ : Type} {X : JX τ} (h : OK X RX6 cX6_isSetting rmX6_isSetting) (hnL : X.nL = 1) {res : Int32} {S : τ} {p1 : Int32} (hE : EXz X cX6_isSetting res S) (hF : f_X6_isSetting p1 = some res) : J X 0 [(0, .int p1)] [] S := by
  rw [f_X6_isSetting] at hF
  refine j_iload_n h 0 rfl rfl dX6_isSetting_0 ?_
  refine j_iconst h (v := 0) (by decide) dX6_isSetting_1 ?_
  refine j_iconst h (v := 3) (by decide) dX6_isSetting_2 ?_
  obtain ⟨r_1, hr_1, hF⟩ := bind_row hF
  refine j_callSz h (st := []) (S' := S) (c_X6_within X.l X.D X.cI X.cZ X.cV (B := X.B) S p1 (0 : Int32) (3 : Int32) hr_1) rfl rfl q1_236 cw_X6_within rfl ⟨rfl, rfl, Nat.le_of_ble_eq_true rfl, Nat.le_of_ble_eq_true rfl⟩ _ rfl (Nat.le_of_ble_eq_true rfl) dX6_isSetting_3 (fun hz_r_1 => ?_)
  cases hF
  exact hE _ _ dX6_isSetting_6 (by assumption)
theorem c_X6_isSetting (l : Launch) (D : va_G) (cI cZ cV : ClassId) {τ : Type} {B : τ → va_W} (S : τ) (p1 : Int32) {r : Int32} (hF : f_X6_isSetting p1 = some r) : CTz l D (jtys cI cZ cV) yX6_isSetting cX6_isSetting 1 (some .boolean) rmX6_isSetting B [.int p1] S r S := by
  refine CTz.of [(0, .int p1)] rfl (Nat.le_of_ble_eq_true rfl) (by decide) ⟨rfl, rfl⟩ (fun X e1 e2 e3 e4 e5 e6 e7 h hE => ?_)
  subst e1; subst e2; subst e3; subst e4; subst e5; subst e6
  exact k_X6_isSetting h e7 hE hF
abbrev rmX6_set : Room := { frames := 4, cells := 0, slots := 0, locals := 90 }
theorem cw_X6_set : CWv RX6 yX6_set cX6_set 4 (some .int) 2 := ⟨q2_61, q2_62, q1_1, q2_63, ⟨rfl, by decide +kernel, by decide +kernel, by decide +kernel⟩⟩
set_option maxHeartbeats 4000000 in
set_option maxRecDepth 100000 in
theorem k_X6_set {X : JX PS} {AD : Nat → Nat → Nat} {t : Nat → Nat} (h : OK X RX6 cX6_set rmX6_set) (hP : IsPool X.cI X.cZ X.cV X.B AD) (hSt : Stat t X.A X.s X.s.heap) (hnL : X.nL = 4) {res : Int32 × PS} {S : PS} {p1 : Int32} {p2 : Int32} (hE : EXi X cX6_set res.1 res.2) (hF : f_X6_set S p1 p2 = some res) : J X 0 [(0, .ref (AD 12 7)), (1, .int p1), (2, .int p2)] [] S := by
  rw [f_X6_set] at hF
  refine j_iload_n h 1 rfl rfl dX6_set_0 ?_
  obtain ⟨r_1, hr_1, hF⟩ := bind_row hF
  refine j_callSz h (st := []) (S' := S) (c_X6_isSetting X.l X.D X.cI X.cZ X.cV (B := X.B) S p1 hr_1) rfl rfl q2_64 cw_X6_isSetting rfl ⟨rfl, rfl, Nat.le_of_ble_eq_true rfl, Nat.le_of_ble_eq_true rfl⟩ _ rfl (Nat.le_of_ble_eq_true rfl) dX6_set_1 (fun hz_r_1 => ?_)
  refine j_if_eq h 20 (by decide) dX6_set_4 hF (fun hF => ?_) (fun hF => ?_)
  · refine j_ldc h (v := -1000002) q1_239 dX6_set_20 ?_
    cases hF
    exact hE _ _ dX6_set_22
  · refine j_iload_n h 2 rfl rfl dX6_set_7 ?_
    refine j_iconst h (v := 0) (by decide) dX6_set_8 ?_
    refine j_gets h hSt.2.1.1 q2_67 dX6_set_9 ?_
    refine j_iload_n h 1 rfl rfl dX6_set_12 ?_
    obtain ⟨hb_2, hF⟩ := bnd_row hF
    refine j_sald h hSt.2.1.2 hb_2 dX6_set_13 ?_
    obtain ⟨r_3, hr_3, hF⟩ := bind_row hF
    refine j_callSz h (st := []) (S' := S) (c_X6_within X.l X.D X.cI X.cZ X.cV (B := X.B) S p2 (0 : Int32) (stSM p1.toNatClampNeg) hr_3) rfl rfl q1_236 cw_X6_within rfl ⟨rfl, rfl, Nat.le_of_ble_eq_true rfl, Nat.le_of_ble_eq_true rfl⟩ _ rfl (Nat.le_of_ble_eq_true rfl) dX6_set_14 (fun hz_r_3 => ?_)
    refine j_if_ne h 23 (by decide) dX6_set_17 hF (fun hF => ?_) (fun hF => ?_)
    · refine j_ldc h (v := -1000002) q1_239 dX6_set_20 ?_
      cases hF
      exact hE _ _ dX6_set_22
    · refine j_aload_n h 0 rfl rfl dX6_set_23 ?_
      refine j_get h hP.2.2.2.2.2.1 inX6 rfl 2 (by decide) rfl q1_202 rfl dX6_set_24 ?_
      refine j_aload_n h 0 rfl rfl dX6_set_27 ?_
      refine j_get h hP.2.2.2.2.2.1 inX6 rfl 0 (by decide) rfl q1_200 rfl dX6_set_28 ?_
      obtain ⟨r_4, hr_4, hF⟩ := bind_row hF
      refine j_callVv h (st := []) (S' := r_4) (c_X1_record X.l X.D X.cI X.cZ X.cV hP (by decide) S hr_4) rfl rfl q2_1 cw_X1_record hP.2.2.2.1.o rfl rfl rfl ⟨rfl, rfl, Nat.le_of_ble_eq_true rfl, Nat.le_of_ble_eq_true rfl⟩ _ rfl (Nat.le_of_ble_eq_true rfl) dX6_set_31 ?_
      refine j_aload_n h 0 rfl rfl dX6_set_34 ?_
      refine j_get h hP.2.2.2.2.2.1 inX6 rfl 0 (by decide) rfl q1_200 rfl dX6_set_35 ?_
      refine j_get h (hP.1 0 (by decide)).2.2.2.2.1.o inX5 rfl 3 (by decide) rfl q1_124 rfl dX6_set_38 ?_
      refine j_iload_n h 1 rfl rfl dX6_set_41 ?_
      obtain ⟨hb_5, hF⟩ := bnd_row hF
      refine ja_iald h (get := fun S => S.1 0) (put := fun S v => setV S 0 v) ((hP.1 0 (by decide)).1 17 (by decide)) hb_5 dX6_set_42 ?_
      refine j_let hF (fun x_6 hF => ?_)
      refine j_istore_n h hnL [(3, .int x_6), (0, .ref (AD 12 7)), (1, .int p1), (2, .int p2)] rfl (by decide) rfl dX6_set_43 ?_
      refine j_aload_n h 1 rfl rfl dX6_set_44 ?_
      refine j_get h hP.2.2.2.2.2.1 inX6 rfl 0 (by decide) rfl q1_200 rfl dX6_set_45 ?_
      refine j_get h (hP.1 0 (by decide)).2.2.2.2.1.o inX5 rfl 3 (by decide) rfl q1_124 rfl dX6_set_48 ?_
      refine j_iload_n h 2 rfl rfl dX6_set_51 ?_
      refine j_iload_n h 3 rfl rfl dX6_set_52 ?_
      obtain ⟨hb_7, hF⟩ := bnd_row hF
      refine ja_iast h (get := fun S => S.1 0) (put := fun S v => setV S 0 v) ((hP.1 0 (by decide)).1 17 (by decide)) hb_7 dX6_set_53 ?_
      refine j_letS hF (fun S_8 hF => ?_)
      refine j_iload_n h 0 rfl rfl dX6_set_54 ?_
      cases hF
      exact hE _ _ dX6_set_55
theorem c_X6_set (l : Launch) (D : va_G) (cI cZ cV : ClassId) {t : Nat → Nat} {B : PS → va_W} {AD : Nat → Nat → Nat} (hP : IsPool cI cZ cV B AD) (S : PS) (p1 : Int32) (p2 : Int32) {r : Int32 × PS} (hF : f_X6_set S p1 p2 = some r) : CTis t l D (jtys cI cZ cV) yX6_set cX6_set 4 (some .int) rmX6_set B [.ref (AD 12 7), .int p1, .int p2] S r.1 r.2 := by
  refine CTis.of [(0, .ref (AD 12 7)), (1, .int p1), (2, .int p2)] rfl (Nat.le_of_ble_eq_true rfl) (by decide) ⟨rfl, rfl⟩ (fun X e1 e2 e3 e4 e5 e6 e7 h hSt hE => ?_)
  subst e1; subst e2; subst e3; subst e4; subst e5; subst e6
  exact k_X6_set h hP hSt e7 hE hF
abbrev rmX6_isBattery : Room := { frames := 1, cells := 0, slots := 0, locals := 22 }
theorem cw_X6_isBattery : CWs yX6_isBattery cX6_isBattery 1 (some .boolean) 1 := ⟨q2_74, q1_1, q2_75, ⟨by decide +kernel, by decide +kernel, by decide +kernel⟩⟩
set_option maxHeartbeats 4000000 in
set_option maxRecDepth 100000 in
theorem k_X6_isBattery {τ : Type} {X : JX τ} (h : OK X RX6 cX6_isBattery rmX6_isBattery) (hnL : X.nL = 1) {res : Int32} {S : τ} {p1 : Int32} (hE : EXz X cX6_isBattery res S) (hF : f_X6_isBattery p1 = some res) : J X 0 [(0, .int p1)] [] S := by
  rw [f_X6_isBattery] at hF
  refine j_iload_n h 0 rfl rfl dX6_isBattery_0 ?_
  refine j_iconst h (v := 0) (by decide) dX6_isBattery_1 ?_
  refine j_iconst h (v := 1) (by decide) dX6_isBattery_2 ?_
  obtain ⟨r_1, hr_1, hF⟩ := bind_row hF
  refine j_callSz h (st := []) (S' := S) (c_X6_within X.l X.D X.cI X.cZ X.cV (B := X.B) S p1 (0 : Int32) (1 : Int32) hr_1) rfl rfl q1_236 cw_X6_within rfl ⟨rfl, rfl, Nat.le_of_ble_eq_true rfl, Nat.le_of_ble_eq_true rfl⟩ _ rfl (Nat.le_of_ble_eq_true rfl) dX6_isBattery_3 (fun hz_r_1 => ?_)
  cases hF
  exact hE _ _ dX6_isBattery_6 (by assumption)
theorem c_X6_isBattery (l : Launch) (D : va_G) (cI cZ cV : ClassId) {τ : Type} {B : τ → va_W} (S : τ) (p1 : Int32) {r : Int32} (hF : f_X6_isBattery p1 = some r) : CTz l D (jtys cI cZ cV) yX6_isBattery cX6_isBattery 1 (some .boolean) rmX6_isBattery B [.int p1] S r S := by
  refine CTz.of [(0, .int p1)] rfl (Nat.le_of_ble_eq_true rfl) (by decide) ⟨rfl, rfl⟩ (fun X e1 e2 e3 e4 e5 e6 e7 h hE => ?_)
  subst e1; subst e2; subst e3; subst e4; subst e5; subst e6
  exact k_X6_isBattery h e7 hE hF
abbrev rmX6_setBattery : Room := { frames := 4, cells := 0, slots := 0, locals := 90 }
theorem cw_X6_setBattery : CWv RX6 yX6_setBattery cX6_setBattery 5 (some .int) 3 := ⟨q2_70, q2_71, q1_1, q2_72, ⟨rfl, by decide +kernel, by decide +kernel, by decide +kernel⟩⟩
set_option maxHeartbeats 4000000 in
set_option maxRecDepth 100000 in
theorem k_X6_setBattery {X : JX PS} {AD : Nat → Nat → Nat} {t : Nat → Nat} (h : OK X RX6 cX6_setBattery rmX6_setBattery) (hP : IsPool X.cI X.cZ X.cV X.B AD) (hSt : Stat t X.A X.s X.s.heap) (hnL : X.nL = 5) {res : Int32 × PS} {S : PS} {p1 : Int32} {p2 : Int32} {p3 : Int32} (hE : EXi X cX6_setBattery res.1 res.2) (hF : f_X6_setBattery S p1 p2 p3 = some res) : J X 0 [(0, .ref (AD 12 7)), (1, .int p1), (2, .int p2), (3, .int p3)] [] S := by
  rw [f_X6_setBattery] at hF
  refine j_iload_n h 1 rfl rfl dX6_setBattery_0 ?_
  obtain ⟨r_1, hr_1, hF⟩ := bind_row hF
  refine j_callSz h (st := []) (S' := S) (c_X6_isBattery X.l X.D X.cI X.cZ X.cV (B := X.B) S p1 hr_1) rfl rfl q2_73 cw_X6_isBattery rfl ⟨rfl, rfl, Nat.le_of_ble_eq_true rfl, Nat.le_of_ble_eq_true rfl⟩ _ rfl (Nat.le_of_ble_eq_true rfl) dX6_setBattery_1 (fun hz_r_1 => ?_)
  refine j_if_eq h 33 (by decide) dX6_setBattery_4 hF (fun hF => ?_) (fun hF => ?_)
  · refine j_ldc h (v := -1000002) q1_239 dX6_setBattery_33 ?_
    cases hF
    exact hE _ _ dX6_setBattery_35
  · refine j_iload_n h 2 rfl rfl dX6_setBattery_7 ?_
    refine j_iconst h (v := 0) (by decide) dX6_setBattery_8 ?_
    refine j_iconst h (v := 2) (by decide) dX6_setBattery_9 ?_
    obtain ⟨r_2, hr_2, hF⟩ := bind_row hF
    refine j_callSz h (st := []) (S' := S) (c_X6_within X.l X.D X.cI X.cZ X.cV (B := X.B) S p2 (0 : Int32) (2 : Int32) hr_2) rfl rfl q1_236 cw_X6_within rfl ⟨rfl, rfl, Nat.le_of_ble_eq_true rfl, Nat.le_of_ble_eq_true rfl⟩ _ rfl (Nat.le_of_ble_eq_true rfl) dX6_setBattery_10 (fun hz_r_2 => ?_)
    refine j_if_eq h 33 (by decide) dX6_setBattery_13 hF (fun hF => ?_) (fun hF => ?_)
    · refine j_ldc h (v := -1000002) q1_239 dX6_setBattery_33 ?_
      cases hF
      exact hE _ _ dX6_setBattery_35
    · refine j_iload_n h 3 rfl rfl dX6_setBattery_16 ?_
      refine j_gets h hSt.2.2.1.1 q2_76 dX6_setBattery_17 ?_
      refine j_iload_n h 2 rfl rfl dX6_setBattery_20 ?_
      obtain ⟨hb_3, hF⟩ := bnd_row hF
      refine j_sald h hSt.2.2.1.2 hb_3 dX6_setBattery_21 ?_
      refine j_gets h hSt.2.2.2.1 q2_78 dX6_setBattery_22 ?_
      refine j_iload_n h 2 rfl rfl dX6_setBattery_25 ?_
      obtain ⟨hb_4, hF⟩ := bnd_row hF
      refine j_sald h hSt.2.2.2.2 hb_4 dX6_setBattery_26 ?_
      obtain ⟨r_5, hr_5, hF⟩ := bind_row hF
      refine j_callSz h (st := []) (S' := S) (c_X6_within X.l X.D X.cI X.cZ X.cV (B := X.B) S p3 (stBL p2.toNatClampNeg) (stBM p2.toNatClampNeg) hr_5) rfl rfl q1_236 cw_X6_within rfl ⟨rfl, rfl, Nat.le_of_ble_eq_true rfl, Nat.le_of_ble_eq_true rfl⟩ _ rfl (Nat.le_of_ble_eq_true rfl) dX6_setBattery_27 (fun hz_r_5 => ?_)
      refine j_if_ne h 36 (by decide) dX6_setBattery_30 hF (fun hF => ?_) (fun hF => ?_)
      · refine j_ldc h (v := -1000002) q1_239 dX6_setBattery_33 ?_
        cases hF
        exact hE _ _ dX6_setBattery_35
      · refine j_aload_n h 0 rfl rfl dX6_setBattery_36 ?_
        refine j_get h hP.2.2.2.2.2.1 inX6 rfl 2 (by decide) rfl q1_202 rfl dX6_setBattery_37 ?_
        refine j_aload_n h 0 rfl rfl dX6_setBattery_40 ?_
        refine j_get h hP.2.2.2.2.2.1 inX6 rfl 0 (by decide) rfl q1_200 rfl dX6_setBattery_41 ?_
        obtain ⟨r_6, hr_6, hF⟩ := bind_row hF
        refine j_callVv h (st := []) (S' := r_6) (c_X1_record X.l X.D X.cI X.cZ X.cV hP (by decide) S hr_6) rfl rfl q2_1 cw_X1_record hP.2.2.2.1.o rfl rfl rfl ⟨rfl, rfl, Nat.le_of_ble_eq_true rfl, Nat.le_of_ble_eq_true rfl⟩ _ rfl (Nat.le_of_ble_eq_true rfl) dX6_setBattery_44 ?_
        refine j_aload_n h 0 rfl rfl dX6_setBattery_47 ?_
        refine j_get h hP.2.2.2.2.2.1 inX6 rfl 0 (by decide) rfl q1_200 rfl dX6_setBattery_48 ?_
        refine j_get h (hP.1 0 (by decide)).2.2.2.2.1.o inX5 rfl 2 (by decide) rfl q1_122 rfl dX6_setBattery_51 ?_
        refine j_iload_n h 1 rfl rfl dX6_setBattery_54 ?_
        refine j_iload_n h 2 rfl rfl dX6_setBattery_55 ?_
        obtain ⟨r_7, hr_7, hF⟩ := bind_row hF
        refine j_callVi h (st := []) (S' := r_6) (c_X0_told X.l X.D X.cI X.cZ X.cV (hP.v r_6 0 (by decide)) (r_6.1 0) p1 p2 hr_7) (congrArg X.B (setV_id r_6 0)) (congrArg X.B (setV_id r_6 0)) q2_80 cw_X0_told (hP.1 0 (by decide)).2.2.2.1 rfl rfl rfl ⟨rfl, rfl, Nat.le_of_ble_eq_true rfl, Nat.le_of_ble_eq_true rfl⟩ _ rfl (Nat.le_of_ble_eq_true rfl) dX6_setBattery_56 ?_
        refine j_istore h hnL [(4, .int r_7), (0, .ref (AD 12 7)), (1, .int p1), (2, .int p2), (3, .int p3)] (by decide) rfl dX6_setBattery_59 ?_
        refine j_aload_n h 1 rfl rfl dX6_setBattery_61 ?_
        refine j_get h hP.2.2.2.2.2.1 inX6 rfl 0 (by decide) rfl q1_200 rfl dX6_setBattery_62 ?_
        refine j_get h (hP.1 0 (by decide)).2.2.2.2.1.o inX5 rfl 2 (by decide) rfl q1_122 rfl dX6_setBattery_65 ?_
        refine j_iload_n h 2 rfl rfl dX6_setBattery_68 ?_
        refine j_iload_n h 3 rfl rfl dX6_setBattery_69 ?_
        refine j_iload_n h 4 rfl rfl dX6_setBattery_70 ?_
        obtain ⟨r_8, hr_8, hF⟩ := bind_row hF
        refine j_callVv h (st := []) (S' := (setV r_6 0 r_8)) (c_X0_change X.l X.D X.cI X.cZ X.cV (hP.v r_6 0 (by decide)) (r_6.1 0) p1 p2 p3 hr_8) (congrArg X.B (setV_id r_6 0)) rfl q2_91 cw_X0_change (hP.1 0 (by decide)).2.2.2.1 rfl rfl rfl ⟨rfl, rfl, Nat.le_of_ble_eq_true rfl, Nat.le_of_ble_eq_true rfl⟩ _ rfl (Nat.le_of_ble_eq_true rfl) dX6_setBattery_71 ?_
        refine j_letS hF (fun S_9 hF => ?_)
        refine j_aload_n h 1 rfl rfl dX6_setBattery_74 ?_
        refine j_get h hP.2.2.2.2.2.1 inX6 rfl 0 (by decide) rfl q1_200 rfl dX6_setBattery_75 ?_
        refine j_get h (hP.1 0 (by decide)).2.2.2.2.1.o inX5 rfl 4 (by decide) rfl q1_126 rfl dX6_setBattery_78 ?_
        refine j_iconst h (v := 4) (by decide) dX6_setBattery_81 ?_
        refine j_dup2 h rfl rfl dX6_setBattery_82 ?_
        obtain ⟨hb_10, hF⟩ := bnd_row hF
        refine ja_iald h (get := fun S => S.1 0) (put := fun S v => setV S 0 v) ((hP.1 0 (by decide)).1 18 (by decide)) hb_10 dX6_setBattery_83 ?_
        refine j_aload_n h 1 rfl rfl dX6_setBattery_84 ?_
        refine j_get h hP.2.2.2.2.2.1 inX6 rfl 0 (by decide) rfl q1_200 rfl dX6_setBattery_85 ?_
        refine j_get h (hP.1 0 (by decide)).2.2.2.2.1.o inX5 rfl 2 (by decide) rfl q1_122 rfl dX6_setBattery_88 ?_
        refine j_iload_n h 2 rfl rfl dX6_setBattery_91 ?_
        obtain ⟨r_11, hr_11, hF⟩ := bind_row hF
        refine j_callVi h (st := [.int (rd (S_9.1 0) 18 (4 : Int32)), .int (4 : Int32), .ref (AD 0 18)]) (S' := (setV S_9 0 r_11.2)) (c_X0_discardExcess X.l X.D X.cI X.cZ X.cV (hP.v S_9 0 (by decide)) (S_9.1 0) p1 hr_11) (congrArg X.B (setV_id S_9 0)) rfl q2_95 cw_X0_discardExcess (hP.1 0 (by decide)).2.2.2.1 rfl rfl rfl ⟨rfl, rfl, Nat.le_of_ble_eq_true rfl, Nat.le_of_ble_eq_true rfl⟩ _ rfl (Nat.le_of_ble_eq_true rfl) dX6_setBattery_92 ?_
        refine j_letS hF (fun S_12 hF => ?_)
        refine j_iadd h dX6_setBattery_95 ?_
        obtain ⟨hb_13, hF⟩ := bnd_row hF
        refine ja_iast h (get := fun S => S.1 0) (put := fun S v => setV S 0 v) ((hP.1 0 (by decide)).1 18 (by decide)) hb_13 dX6_setBattery_96 ?_
        refine j_letS hF (fun S_14 hF => ?_)
        refine j_iload h 0 rfl dX6_setBattery_97 ?_
        cases hF
        exact hE _ _ dX6_setBattery_99
theorem c_X6_setBattery (l : Launch) (D : va_G) (cI cZ cV : ClassId) {t : Nat → Nat} {B : PS → va_W} {AD : Nat → Nat → Nat} (hP : IsPool cI cZ cV B AD) (S : PS) (p1 : Int32) (p2 : Int32) (p3 : Int32) {r : Int32 × PS} (hF : f_X6_setBattery S p1 p2 p3 = some r) : CTis t l D (jtys cI cZ cV) yX6_setBattery cX6_setBattery 5 (some .int) rmX6_setBattery B [.ref (AD 12 7), .int p1, .int p2, .int p3] S r.1 r.2 := by
  refine CTis.of [(0, .ref (AD 12 7)), (1, .int p1), (2, .int p2), (3, .int p3)] rfl (Nat.le_of_ble_eq_true rfl) (by decide) ⟨rfl, rfl⟩ (fun X e1 e2 e3 e4 e5 e6 e7 h hSt hE => ?_)
  subst e1; subst e2; subst e3; subst e4; subst e5; subst e6
  exact k_X6_setBattery h hP hSt e7 hE hF
