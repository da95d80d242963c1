abbrev rmX0_copy : Room := { frames := 1, cells := 0, slots := 0, locals := 26 }
theorem cw_X0_copy : CWv RX0 yX0_copy cX0_copy 2 none 1 := ⟨q2_26, q2_27, q1_5, q2_28, ⟨rfl, by decide +kernel, by decide +kernel, by decide +kernel⟩⟩
set_option maxHeartbeats 4000000 in
set_option maxRecDepth 100000 in
theorem k_X0_copy {X : JX PS} {AD : Nat → Nat → Nat} {i : Nat} {j : Nat} (h : OK X RX0 cX0_copy rmX0_copy) (hP : IsPool X.cI X.cZ X.cV X.B AD) (hi : i < 12) (hj : j < 12) (hnL : X.nL = 2) {res : PS} {S : PS} (hE : EXv X cX0_copy res) (hF : f_X0_copy i j S = some res) : J X 0 [(0, .ref (AD i 25)), (1, .ref (AD j 25))] [] S := by
  rw [f_X0_copy] at hF
  refine j_aload_n h 1 rfl rfl dX0_copy_0 ?_
  refine j_get h (hP.1 j hj).2.2.2.1 inX0 rfl 0 (by decide) rfl q1_104 rfl dX0_copy_1 ?_
  refine j_iconst h (v := 0) (by decide) dX0_copy_4 ?_
  refine j_aload_n h 0 rfl rfl dX0_copy_5 ?_
  refine j_get h (hP.1 i hi).2.2.2.1 inX0 rfl 0 (by decide) rfl q1_104 rfl dX0_copy_6 ?_
  refine j_iconst h (v := 0) (by decide) dX0_copy_9 ?_
  refine j_iconst h (v := 2) (by decide) dX0_copy_10 ?_
  refine j_copy h 0 0 2 ((hP.1 j hj).1 13 (by decide)).a ((hP.1 i hi).1 13 (by decide)) rfl rfl rfl (by decide) (by decide) (by decide) (by decide) (by decide) q2_29 ⟨Nat.le_of_ble_eq_true rfl, Nat.le_of_ble_eq_true rfl⟩ dX0_copy_11 ?_
  refine j_letS hF (fun S_1 hF => ?_)
  refine j_aload_n h 1 rfl rfl dX0_copy_14 ?_
  refine j_get h (hP.1 j hj).2.2.2.1 inX0 rfl 1 (by decide) rfl q1_105 rfl dX0_copy_15 ?_
  refine j_iconst h (v := 0) (by decide) dX0_copy_18 ?_
  refine j_aload_n h 0 rfl rfl dX0_copy_19 ?_
  refine j_get h (hP.1 i hi).2.2.2.1 inX0 rfl 1 (by decide) rfl q1_105 rfl dX0_copy_20 ?_
  refine j_iconst h (v := 0) (by decide) dX0_copy_23 ?_
  refine j_iconst h (v := 2) (by decide) dX0_copy_24 ?_
  refine j_copy h 0 0 2 ((hP.1 j hj).1 14 (by decide)).a ((hP.1 i hi).1 14 (by decide)) rfl rfl rfl (by decide) (by decide) (by decide) (by decide) (by decide) q2_29 ⟨Nat.le_of_ble_eq_true rfl, Nat.le_of_ble_eq_true rfl⟩ dX0_copy_25 ?_
  refine j_letS hF (fun S_2 hF => ?_)
  refine j_aload_n h 1 rfl rfl dX0_copy_28 ?_
  refine j_get h (hP.1 j hj).2.2.2.1 inX0 rfl 2 (by decide) rfl q1_106 rfl dX0_copy_29 ?_
  refine j_iconst h (v := 0) (by decide) dX0_copy_32 ?_
  refine j_aload_n h 0 rfl rfl dX0_copy_33 ?_
  refine j_get h (hP.1 i hi).2.2.2.1 inX0 rfl 2 (by decide) rfl q1_106 rfl dX0_copy_34 ?_
  refine j_iconst h (v := 0) (by decide) dX0_copy_37 ?_
  refine j_iconst h (v := 2) (by decide) dX0_copy_38 ?_
  refine j_copy h 0 0 2 ((hP.1 j hj).1 15 (by decide)).a ((hP.1 i hi).1 15 (by decide)) rfl rfl rfl (by decide) (by decide) (by decide) (by decide) (by decide) q2_29 ⟨Nat.le_of_ble_eq_true rfl, Nat.le_of_ble_eq_true rfl⟩ dX0_copy_39 ?_
  refine j_letS hF (fun S_3 hF => ?_)
  refine j_aload_n h 1 rfl rfl dX0_copy_42 ?_
  refine j_get h (hP.1 j hj).2.2.2.1 inX0 rfl 3 (by decide) rfl q1_107 rfl dX0_copy_43 ?_
  refine j_iconst h (v := 0) (by decide) dX0_copy_46 ?_
  refine j_aload_n h 0 rfl rfl dX0_copy_47 ?_
  refine j_get h (hP.1 i hi).2.2.2.1 inX0 rfl 3 (by decide) rfl q1_107 rfl dX0_copy_48 ?_
  refine j_iconst h (v := 0) (by decide) dX0_copy_51 ?_
  refine j_iconst h (v := 2) (by decide) dX0_copy_52 ?_
  refine j_copy h 0 0 2 ((hP.1 j hj).1 16 (by decide)).a ((hP.1 i hi).1 16 (by decide)) rfl rfl rfl (by decide) (by decide) (by decide) (by decide) (by decide) q2_29 ⟨Nat.le_of_ble_eq_true rfl, Nat.le_of_ble_eq_true rfl⟩ dX0_copy_53 ?_
  refine j_letS hF (fun S_4 hF => ?_)
  cases hF
  exact hE _ _ dX0_copy_56
theorem c_X0_copy (l : Launch) (D : va_G) (cI cZ cV : ClassId) {B : PS → va_W} {AD : Nat → Nat → Nat} (hP : IsPool cI cZ cV B AD) {i : Nat} {j : Nat} (hi : i < 12) (hj : j < 12) (S : PS) {r : PS} (hF : f_X0_copy i j S = some r) : CTv l D (jtys cI cZ cV) yX0_copy cX0_copy 2 none rmX0_copy B [.ref (AD i 25), .ref (AD j 25)] S r := by
  refine CTv.of [(0, .ref (AD i 25)), (1, .ref (AD j 25))] rfl (Nat.le_of_ble_eq_true rfl) (by decide) ⟨rfl, rfl⟩ (fun X e1 e2 e3 e4 e5 e6 e7 h hE => ?_)
  subst e1; subst e2; subst e3; subst e4; subst e5; subst e6
  exact k_X0_copy h hP hi hj e7 hE hF
abbrev rmX0_canGive : Room := { frames := 1, cells := 0, slots := 0, locals := 21 }
theorem cw_X0_canGive : CWv RX0 yX0_canGive cX0_canGive 2 (some .int) 1 := ⟨q2_85, q2_86, q1_5, q2_87, ⟨rfl, by decide +kernel, by decide +kernel, by decide +kernel⟩⟩
set_option maxHeartbeats 4000000 in
set_option maxRecDepth 100000 in
theorem k_X0_canGive {X : JX VS} {ad : Nat → Nat} (h : OK X RX0 cX0_canGive rmX0_canGive) (hV : IsVill X.cI X.B ad) (hnL : X.nL = 2) {res : Int32} {S : VS} {p1 : Int32} (hE : EXi X cX0_canGive res S) (hF : f_X0_canGive S p1 = some res) : J X 0 [(0, .ref (ad 25)), (1, .int p1)] [] S := by
  rw [f_X0_canGive] at hF
  refine j_aload_n h 0 rfl rfl dX0_canGive_0 ?_
  refine j_get h hV.2.2.2.1 inX0 rfl 3 (by decide) rfl q1_107 rfl dX0_canGive_1 ?_
  refine j_iload_n h 1 rfl rfl dX0_canGive_4 ?_
  obtain ⟨hb_1, hF⟩ := bnd_row hF
  refine ja_iald h (get := fun v => v) (put := fun _ v => v) (hV.1 16 (by decide)) hb_1 dX0_canGive_5 ?_
  refine j_aload_n h 0 rfl rfl dX0_canGive_6 ?_
  refine j_get h hV.2.2.2.1 inX0 rfl 1 (by decide) rfl q1_105 rfl dX0_canGive_7 ?_
  refine j_iload_n h 1 rfl rfl dX0_canGive_10 ?_
  obtain ⟨hb_2, hF⟩ := bnd_row hF
  refine ja_iald h (get := fun v => v) (put := fun _ v => v) (hV.1 14 (by decide)) hb_2 dX0_canGive_11 ?_
  refine j_min h q2_88 ⟨Nat.le_of_ble_eq_true rfl, Nat.le_of_ble_eq_true rfl⟩ dX0_canGive_12 ?_
  cases hF
  exact hE _ _ dX0_canGive_15
theorem c_X0_canGive (l : Launch) (D : va_G) (cI cZ cV : ClassId) {B : VS → va_W} {ad : Nat → Nat} (hV : IsVill cI B ad) (S : VS) (p1 : Int32) {r : Int32} (hF : f_X0_canGive S p1 = some r) : CTi l D (jtys cI cZ cV) yX0_canGive cX0_canGive 2 (some .int) rmX0_canGive B [.ref (ad 25), .int p1] S r S := by
  refine CTi.of [(0, .ref (ad 25)), (1, .int p1)] rfl (Nat.le_of_ble_eq_true rfl) (by decide) ⟨rfl, rfl⟩ (fun X e1 e2 e3 e4 e5 e6 e7 h hE => ?_)
  subst e1; subst e2; subst e3; subst e4; subst e5; subst e6
  exact k_X0_canGive h hV e7 hE hF
abbrev rmX0_told : Room := { frames := 2, cells := 0, slots := 0, locals := 42 }
theorem cw_X0_told : CWv RX0 yX0_told cX0_told 3 (some .int) 2 := ⟨q2_81, q2_82, q1_5, q2_83, ⟨rfl, by decide +kernel, by decide +kernel, by decide +kernel⟩⟩
set_option maxHeartbeats 4000000 in
set_option maxRecDepth 100000 in
theorem k_X0_told {X : JX VS} {ad : Nat → Nat} (h : OK X RX0 cX0_told rmX0_told) (hV : IsVill X.cI X.B ad) (hnL : X.nL = 3) {res : Int32} {S : VS} {p1 : Int32} {p2 : Int32} (hE : EXi X cX0_told res S) (hF : f_X0_told S p1 p2 = some res) : J X 0 [(0, .ref (ad 25)), (1, .int p1), (2, .int p2)] [] S := by
  rw [f_X0_told] at hF
  refine j_iload_n h 2 rfl rfl dX0_told_0 ?_
  refine j_case hF (fun g_1 hF => ?_) (fun g_1 hF => ?_)
  · refine j_tableIn h (31) 32 0 g_1 (by decide) (by decide) (by decide) (by decide) dX0_told_1 ?_
    refine j_aload_n h 0 rfl rfl dX0_told_32 ?_
    refine j_get h hV.2.2.2.1 inX0 rfl 0 (by decide) rfl q1_104 rfl dX0_told_33 ?_
    refine j_iload_n h 1 rfl rfl dX0_told_36 ?_
    obtain ⟨hb_2, hF⟩ := bnd_row hF
    refine ja_iald h (get := fun v => v) (put := fun _ v => v) (hV.1 13 (by decide)) hb_2 dX0_told_37 ?_
    cases hF
    exact hE _ _ dX0_told_38
  · have g_1 := sw_ne g_1 (n := 0) (by decide)
    refine j_case hF (fun g_3 hF => ?_) (fun g_3 hF => ?_)
    · refine j_tableIn h (38) 39 1 g_3 (by decide) (by decide) (by decide) (by decide) dX0_told_1 ?_
      refine j_aload_n h 0 rfl rfl dX0_told_39 ?_
      refine j_get h hV.2.2.2.1 inX0 rfl 1 (by decide) rfl q1_105 rfl dX0_told_40 ?_
      refine j_iload_n h 1 rfl rfl dX0_told_43 ?_
      obtain ⟨hb_4, hF⟩ := bnd_row hF
      refine ja_iald h (get := fun v => v) (put := fun _ v => v) (hV.1 14 (by decide)) hb_4 dX0_told_44 ?_
      cases hF
      exact hE _ _ dX0_told_45
    · have g_3 := sw_ne g_3 (n := 1) (by decide)
      refine j_case hF (fun g_5 hF => ?_) (fun g_5 hF => ?_)
      · refine j_tableIn h (45) 46 2 g_5 (by decide) (by decide) (by decide) (by decide) dX0_told_1 ?_
        refine j_aload_n h 0 rfl rfl dX0_told_46 ?_
        refine j_get h hV.2.2.2.1 inX0 rfl 2 (by decide) rfl q1_106 rfl dX0_told_47 ?_
        refine j_iload_n h 1 rfl rfl dX0_told_50 ?_
        obtain ⟨hb_6, hF⟩ := bnd_row hF
        refine ja_iald h (get := fun v => v) (put := fun _ v => v) (hV.1 15 (by decide)) hb_6 dX0_told_51 ?_
        cases hF
        exact hE _ _ dX0_told_52
      · have g_5 := sw_ne g_5 (n := 2) (by decide)
        refine j_case hF (fun g_7 hF => ?_) (fun g_7 hF => ?_)
        · refine j_tableIn h (52) 53 3 g_7 (by decide) (by decide) (by decide) (by decide) dX0_told_1 ?_
          refine j_aload_n h 0 rfl rfl dX0_told_53 ?_
          refine j_get h hV.2.2.2.1 inX0 rfl 3 (by decide) rfl q1_107 rfl dX0_told_54 ?_
          refine j_iload_n h 1 rfl rfl dX0_told_57 ?_
          obtain ⟨hb_8, hF⟩ := bnd_row hF
          refine ja_iald h (get := fun v => v) (put := fun _ v => v) (hV.1 16 (by decide)) hb_8 dX0_told_58 ?_
          cases hF
          exact hE _ _ dX0_told_59
        · have g_7 := sw_ne g_7 (n := 3) (by decide)
          refine j_tableOut h 60 (by omega) (by decide) dX0_told_1 ?_
          refine j_aload_n h 0 rfl rfl dX0_told_60 ?_
          refine j_iload_n h 1 rfl rfl dX0_told_61 ?_
          obtain ⟨r_9, hr_9, hF⟩ := bind_row hF
          refine j_callVi h (st := []) (S' := S) (c_X0_canGive X.l X.D X.cI X.cZ X.cV hV S p1 hr_9) rfl rfl q2_84 cw_X0_canGive hV.2.2.2.1 rfl rfl rfl ⟨rfl, rfl, Nat.le_of_ble_eq_true rfl, Nat.le_of_ble_eq_true rfl⟩ _ rfl (Nat.le_of_ble_eq_true rfl) dX0_told_62 ?_
          cases hF
          exact hE _ _ dX0_told_65
theorem c_X0_told (l : Launch) (D : va_G) (cI cZ cV : ClassId) {B : VS → va_W} {ad : Nat → Nat} (hV : IsVill cI B ad) (S : VS) (p1 : Int32) (p2 : Int32) {r : Int32} (hF : f_X0_told S p1 p2 = some r) : CTi l D (jtys cI cZ cV) yX0_told cX0_told 3 (some .int) rmX0_told B [.ref (ad 25), .int p1, .int p2] S r S := by
  refine CTi.of [(0, .ref (ad 25)), (1, .int p1), (2, .int p2)] rfl (Nat.le_of_ble_eq_true rfl) (by decide) ⟨rfl, rfl⟩ (fun X e1 e2 e3 e4 e5 e6 e7 h hE => ?_)
  subst e1; subst e2; subst e3; subst e4; subst e5; subst e6
  exact k_X0_told h hV e7 hE hF
abbrev rmX0_change : Room := { frames := 0, cells := 0, slots := 0, locals := 0 }
theorem cw_X0_change : CWv RX0 yX0_change cX0_change 4 none 3 := ⟨q2_92, q2_93, q1_5, q2_94, ⟨rfl, by decide +kernel, by decide +kernel, by decide +kernel⟩⟩
set_option maxHeartbeats 4000000 in
set_option maxRecDepth 100000 in
theorem k_X0_change {X : JX VS} {ad : Nat → Nat} (h : OK X RX0 cX0_change rmX0_change) (hV : IsVill X.cI X.B ad) (hnL : X.nL = 4) {res : VS} {S : VS} {p1 : Int32} {p2 : Int32} {p3 : Int32} (hE : EXv X cX0_change res) (hF : f_X0_change S p1 p2 p3 = some res) : J X 0 [(0, .ref (ad 25)), (1, .int p1), (2, .int p2), (3, .int p3)] [] S := by
  rw [f_X0_change] at hF
  refine j_iload_n h 2 rfl rfl dX0_change_0 ?_
  refine j_case hF (fun g_1 hF => ?_) (fun g_1 hF => ?_)
  · refine j_lookup h (27) 28 (by decide) (by rw [g_1]; decide) (by decide) dX0_change_1 ?_
    refine j_aload_n h 0 rfl rfl dX0_change_28 ?_
    refine j_get h hV.2.2.2.1 inX0 rfl 0 (by decide) rfl q1_104 rfl dX0_change_29 ?_
    refine j_iload_n h 1 rfl rfl dX0_change_32 ?_
    refine j_iload_n h 3 rfl rfl dX0_change_33 ?_
    obtain ⟨hb_2, hF⟩ := bnd_row hF
    refine ja_iast h (get := fun v => v) (put := fun _ v => v) (hV.1 13 (by decide)) hb_2 dX0_change_34 ?_
    refine j_letS hF (fun S_3 hF => ?_)
    refine j_goto h 55 (by decide) dX0_change_35 ?_
    cases hF
    exact hE _ _ dX0_change_55
  · have g_1 := sw_ne g_1 (n := 0) (by decide)
    refine j_case hF (fun g_4 hF => ?_) (fun g_4 hF => ?_)
    · refine j_lookup h (37) 38 (by decide) (by rw [g_4]; decide) (by decide) dX0_change_1 ?_
      refine j_aload_n h 0 rfl rfl dX0_change_38 ?_
      refine j_get h hV.2.2.2.1 inX0 rfl 1 (by decide) rfl q1_105 rfl dX0_change_39 ?_
      refine j_iload_n h 1 rfl rfl dX0_change_42 ?_
      refine j_iload_n h 3 rfl rfl dX0_change_43 ?_
      obtain ⟨hb_5, hF⟩ := bnd_row hF
      refine ja_iast h (get := fun v => v) (put := fun _ v => v) (hV.1 14 (by decide)) hb_5 dX0_change_44 ?_
      refine j_letS hF (fun S_6 hF => ?_)
      refine j_goto h 55 (by decide) dX0_change_45 ?_
      cases hF
      exact hE _ _ dX0_change_55
    · have g_4 := sw_ne g_4 (n := 1) (by decide)
      refine j_lookup h (47) 48 (by decide) (by show Op.lookupswitch.offset [(0, 27), (1, 37)] (47) _ = (47); simp only [Op.lookupswitch.offset_cons, Op.lookupswitch.offset_nil]; rw [if_neg (Ne.symm g_1), if_neg (Ne.symm g_4)]) (by decide) dX0_change_1 ?_
      refine j_aload_n h 0 rfl rfl dX0_change_48 ?_
      refine j_get h hV.2.2.2.1 inX0 rfl 2 (by decide) rfl q1_106 rfl dX0_change_49 ?_
      refine j_iload_n h 1 rfl rfl dX0_change_52 ?_
      refine j_iload_n h 3 rfl rfl dX0_change_53 ?_
      obtain ⟨hb_7, hF⟩ := bnd_row hF
      refine ja_iast h (get := fun v => v) (put := fun _ v => v) (hV.1 15 (by decide)) hb_7 dX0_change_54 ?_
      refine j_letS hF (fun S_8 hF => ?_)
      cases hF
      exact hE _ _ dX0_change_55
theorem c_X0_change (l : Launch) (D : va_G) (cI cZ cV : ClassId) {B : VS → va_W} {ad : Nat → Nat} (hV : IsVill cI B ad) (S : VS) (p1 : Int32) (p2 : Int32) (p3 : Int32) {r : VS} (hF : f_X0_change S p1 p2 p3 = some r) : CTv l D (jtys cI cZ cV) yX0_change cX0_change 4 none rmX0_change B [.ref (ad 25), .int p1, .int p2, .int p3] S r := by
  refine CTv.of [(0, .ref (ad 25)), (1, .int p1), (2, .int p2), (3, .int p3)] rfl (Nat.le_of_ble_eq_true rfl) (by decide) ⟨rfl, rfl⟩ (fun X e1 e2 e3 e4 e5 e6 e7 h hE => ?_)
  subst e1; subst e2; subst e3; subst e4; subst e5; subst e6
  exact k_X0_change h hV e7 hE hF
abbrev rmX0_discardExcess : Room := { frames := 1, cells := 0, slots := 0, locals := 21 }
theorem cw_X0_discardExcess : CWv RX0 yX0_discardExcess cX0_discardExcess 3 (some .int) 1 := ⟨q2_96, q2_97, q1_5, q2_98, ⟨rfl, by decide +kernel, by decide +kernel, by decide +kernel⟩⟩
set_option maxHeartbeats 4000000 in
set_option maxRecDepth 100000 in
theorem k_X0_discardExcess {X : JX VS} {ad : Nat → Nat} (h : OK X RX0 cX0_discardExcess rmX0_discardExcess) (hV : IsVill X.cI X.B ad) (hnL : X.nL = 3) {res : Int32 × VS} {S : VS} {p1 : Int32} (hE : EXi X cX0_discardExcess res.1 res.2) (hF : f_X0_discardExcess S p1 = some res) : J X 0 [(0, .ref (ad 25)), (1, .int p1)] [] S := by
  rw [f_X0_discardExcess] at hF
  refine j_iconst h (v := 0) (by decide) dX0_discardExcess_0 ?_
  refine j_aload_n h 0 rfl rfl dX0_discardExcess_1 ?_
  refine j_get h hV.2.2.2.1 inX0 rfl 3 (by decide) rfl q1_107 rfl dX0_discardExcess_2 ?_
  refine j_iload_n h 1 rfl rfl dX0_discardExcess_5 ?_
  obtain ⟨hb_1, hF⟩ := bnd_row hF
  refine ja_iald h (get := fun v => v) (put := fun _ v => v) (hV.1 16 (by decide)) hb_1 dX0_discardExcess_6 ?_
  refine j_aload_n h 0 rfl rfl dX0_discardExcess_7 ?_
  refine j_get h hV.2.2.2.1 inX0 rfl 0 (by decide) rfl q1_104 rfl dX0_discardExcess_8 ?_
  refine j_iload_n h 1 rfl rfl dX0_discardExcess_11 ?_
  obtain ⟨hb_2, hF⟩ := bnd_row hF
  refine ja_iald h (get := fun v => v) (put := fun _ v => v) (hV.1 13 (by decide)) hb_2 dX0_discardExcess_12 ?_
  refine j_isub h dX0_discardExcess_13 ?_
  refine j_max h q2_99 ⟨Nat.le_of_ble_eq_true rfl, Nat.le_of_ble_eq_true rfl⟩ dX0_discardExcess_14 ?_
  refine j_let hF (fun x_3 hF => ?_)
  refine j_istore_n h hnL [(2, .int x_3), (0, .ref (ad 25)), (1, .int p1)] rfl (by decide) rfl dX0_discardExcess_17 ?_
  refine j_aload_n h 1 rfl rfl dX0_discardExcess_18 ?_
  refine j_get h hV.2.2.2.1 inX0 rfl 3 (by decide) rfl q1_107 rfl dX0_discardExcess_19 ?_
  refine j_iload_n h 2 rfl rfl dX0_discardExcess_22 ?_
  refine j_dup2 h rfl rfl dX0_discardExcess_23 ?_
  obtain ⟨hb_4, hF⟩ := bnd_row hF
  refine ja_iald h (get := fun v => v) (put := fun _ v => v) (hV.1 16 (by decide)) hb_4 dX0_discardExcess_24 ?_
  refine j_iload_n h 0 rfl rfl dX0_discardExcess_25 ?_
  refine j_isub h dX0_discardExcess_26 ?_
  obtain ⟨hb_5, hF⟩ := bnd_row hF
  refine ja_iast h (get := fun v => v) (put := fun _ v => v) (hV.1 16 (by decide)) hb_5 dX0_discardExcess_27 ?_
  refine j_letS hF (fun S_6 hF => ?_)
  refine j_iload_n h 0 rfl rfl dX0_discardExcess_28 ?_
  cases hF
  exact hE _ _ dX0_discardExcess_29
theorem c_X0_discardExcess (l : Launch) (D : va_G) (cI cZ cV : ClassId) {B : VS → va_W} {ad : Nat → Nat} (hV : IsVill cI B ad) (S : VS) (p1 : Int32) {r : Int32 × VS} (hF : f_X0_discardExcess S p1 = some r) : CTi l D (jtys cI cZ cV) yX0_discardExcess cX0_discardExcess 3 (some .int) rmX0_discardExcess B [.ref (ad 25), .int p1] S r.1 r.2 := by
  refine CTi.of [(0, .ref (ad 25)), (1, .int p1)] rfl (Nat.le_of_ble_eq_true rfl) (by decide) ⟨rfl, rfl⟩ (fun X e1 e2 e3 e4 e5 e6 e7 h hE => ?_)
  subst e1; subst e2; subst e3; subst e4; subst e5; subst e6
  exact k_X0_discardExcess h hV e7 hE hF
abbrev rmX0_chargeOfAll : Room := { frames := 0, cells := 0, slots := 0, locals := 0 }
theorem cw_X0_chargeOfAll : CWv RX0 yX0_chargeOfAll cX0_chargeOfAll 1 (some .int) 0 := ⟨q3_68, q3_69, q1_5, q3_70, ⟨rfl, by decide +kernel, by decide +kernel, by decide +kernel⟩⟩
set_option maxHeartbeats 4000000 in
set_option maxRecDepth 100000 in
theorem k_X0_chargeOfAll {X : JX VS} {ad : Nat → Nat} (h : OK X RX0 cX0_chargeOfAll rmX0_chargeOfAll) (hV : IsVill X.cI X.B ad) (hnL : X.nL = 1) {res : Int32} {S : VS} (hE : EXi X cX0_chargeOfAll res S) (hF : f_X0_chargeOfAll S = some res) : J X 0 [(0, .ref (ad 25))] [] S := by
  rw [f_X0_chargeOfAll] at hF
  refine j_aload_n h 0 rfl rfl dX0_chargeOfAll_0 ?_
  refine j_get h hV.2.2.2.1 inX0 rfl 3 (by decide) rfl q1_107 rfl dX0_chargeOfAll_1 ?_
  refine j_iconst h (v := 0) (by decide) dX0_chargeOfAll_4 ?_
  obtain ⟨hb_1, hF⟩ := bnd_row hF
  refine ja_iald h (get := fun v => v) (put := fun _ v => v) (hV.1 16 (by decide)) hb_1 dX0_chargeOfAll_5 ?_
  refine j_aload_n h 0 rfl rfl dX0_chargeOfAll_6 ?_
  refine j_get h hV.2.2.2.1 inX0 rfl 3 (by decide) rfl q1_107 rfl dX0_chargeOfAll_7 ?_
  refine j_iconst h (v := 1) (by decide) dX0_chargeOfAll_10 ?_
  obtain ⟨hb_2, hF⟩ := bnd_row hF
  refine ja_iald h (get := fun v => v) (put := fun _ v => v) (hV.1 16 (by decide)) hb_2 dX0_chargeOfAll_11 ?_
  refine j_iadd h dX0_chargeOfAll_12 ?_
  cases hF
  exact hE _ _ dX0_chargeOfAll_13
theorem c_X0_chargeOfAll (l : Launch) (D : va_G) (cI cZ cV : ClassId) {B : VS → va_W} {ad : Nat → Nat} (hV : IsVill cI B ad) (S : VS) {r : Int32} (hF : f_X0_chargeOfAll S = some r) : CTi l D (jtys cI cZ cV) yX0_chargeOfAll cX0_chargeOfAll 1 (some .int) rmX0_chargeOfAll B [.ref (ad 25)] S r S := by
  refine CTi.of [(0, .ref (ad 25))] rfl (Nat.le_of_ble_eq_true rfl) (by decide) ⟨rfl, rfl⟩ (fun X e1 e2 e3 e4 e5 e6 e7 h hE => ?_)
  subst e1; subst e2; subst e3; subst e4; subst e5; subst e6
  exact k_X0_chargeOfAll h hV e7 hE hF
abbrev rmX0_canGiveAll : Room := { frames := 2, cells := 0, slots := 0, locals := 42 }
theorem cw_X0_canGiveAll : CWv RX0 yX0_canGiveAll cX0_canGiveAll 1 (some .int) 0 := ⟨q2_200, q2_201, q1_5, q2_202, ⟨rfl, by decide +kernel, by decide +kernel, by decide +kernel⟩⟩
set_option maxHeartbeats 4000000 in
set_option maxRecDepth 100000 in
theorem k_X0_canGiveAll {X : JX VS} {ad : Nat → Nat} (h : OK X RX0 cX0_canGiveAll rmX0_canGiveAll) (hV : IsVill X.cI X.B ad) (hnL : X.nL = 1) {res : Int32} {S : VS} (hE : EXi X cX0_canGiveAll res S) (hF : f_X0_canGiveAll S = some res) : J X 0 [(0, .ref (ad 25))] [] S := by
  rw [f_X0_canGiveAll] at hF
  refine j_aload_n h 0 rfl rfl dX0_canGiveAll_0 ?_
  refine j_iconst h (v := 0) (by decide) dX0_canGiveAll_1 ?_
  obtain ⟨r_1, hr_1, hF⟩ := bind_row hF
  refine j_callVi h (st := []) (S' := S) (c_X0_canGive X.l X.D X.cI X.cZ X.cV hV S (0 : Int32) hr_1) rfl rfl q2_84 cw_X0_canGive hV.2.2.2.1 rfl rfl rfl ⟨rfl, rfl, Nat.le_of_ble_eq_true rfl, Nat.le_of_ble_eq_true rfl⟩ _ rfl (Nat.le_of_ble_eq_true rfl) dX0_canGiveAll_2 ?_
  refine j_aload_n h 0 rfl rfl dX0_canGiveAll_5 ?_
  refine j_iconst h (v := 1) (by decide) dX0_canGiveAll_6 ?_
  obtain ⟨r_2, hr_2, hF⟩ := bind_row hF
  refine j_callVi h (st := [.int r_1]) (S' := S) (c_X0_canGive X.l X.D X.cI X.cZ X.cV hV S (1 : Int32) hr_2) rfl rfl q2_84 cw_X0_canGive hV.2.2.2.1 rfl rfl rfl ⟨rfl, rfl, Nat.le_of_ble_eq_true rfl, Nat.le_of_ble_eq_true rfl⟩ _ rfl (Nat.le_of_ble_eq_true rfl) dX0_canGiveAll_7 ?_
  refine j_iadd h dX0_canGiveAll_10 ?_
  cases hF
  exact hE _ _ dX0_canGiveAll_11
theorem c_X0_canGiveAll (l : Launch) (D : va_G) (cI cZ cV : ClassId) {B : VS → va_W} {ad : Nat → Nat} (hV : IsVill cI B ad) (S : VS) {r : Int32} (hF : f_X0_canGiveAll S = some r) : CTi l D (jtys cI cZ cV) yX0_canGiveAll cX0_canGiveAll 1 (some .int) rmX0_canGiveAll B [.ref (ad 25)] S r S := by
  refine CTi.of [(0, .ref (ad 25))] rfl (Nat.le_of_ble_eq_true rfl) (by decide) ⟨rfl, rfl⟩ (fun X e1 e2 e3 e4 e5 e6 e7 h hE => ?_)
  subst e1; subst e2; subst e3; subst e4; subst e5; subst e6
  exact k_X0_canGiveAll h hV e7 hE hF
abbrev rmX0_give : Room := { frames := 2, cells := 0, slots := 0, locals := 42 }
theorem cw_X0_give : CWv RX0 yX0_give cX0_give 5 none 1 := ⟨q3_6, q3_7, q1_5, q3_8, ⟨rfl, by decide +kernel, by decide +kernel, by decide +kernel⟩⟩
set_option maxHeartbeats 4000000 in
set_option maxRecDepth 100000 in
theorem k_X0_give_4 {X : JX VS} {ad : Nat → Nat} (h : OK X RX0 cX0_give rmX0_give) (hV : IsVill X.cI X.B ad) (hnL : X.nL = 5) {res : VS} (hE : EXv X cX0_give res) : ∀ (n : Nat) (x2 : Int32) (x3 : Int32) (S : VS), f_X0_give_4 n x2 x3 S = some res → J X 4 [(0, .ref (ad 25)), (2, .int x2), (3, .int x3)] [] S := by
  intro n
  induction n with
  | zero =>
    intro x2 x3 S hF
    rw [f_X0_give_4] at hF
    cases hF
  | succ n ih =>
    intro x2 x3 S hF
    rw [f_X0_give_4] at hF
    refine j_iload_n h 2 rfl rfl dX0_give_4 ?_
    refine j_iconst h (v := 2) (by decide) dX0_give_5 ?_
    refine j_icmp_ge h 42 (by decide) dX0_give_6 hF (fun hF => ?_) (fun hF => ?_)
    · cases hF
      exact hE _ _ dX0_give_42
    · refine j_iload_n h 1 rfl rfl dX0_give_9 ?_
      refine j_aload_n h 0 rfl rfl dX0_give_10 ?_
      refine j_iload_n h 2 rfl rfl dX0_give_11 ?_
      obtain ⟨r_1, hr_1, hF⟩ := bind_row hF
      refine j_callVi h (st := [.int x2]) (S' := S) (c_X0_canGive X.l X.D X.cI X.cZ X.cV hV S x3 hr_1) rfl rfl q2_84 cw_X0_canGive hV.2.2.2.1 rfl rfl rfl ⟨rfl, rfl, Nat.le_of_ble_eq_true rfl, Nat.le_of_ble_eq_true rfl⟩ _ rfl (Nat.le_of_ble_eq_true rfl) dX0_give_12 ?_
      refine j_min h q2_88 ⟨Nat.le_of_ble_eq_true rfl, Nat.le_of_ble_eq_true rfl⟩ dX0_give_15 ?_
      refine j_let hF (fun x_2 hF => ?_)
      refine j_istore h hnL [(4, .int x_2), (0, .ref (ad 25)), (2, .int x2), (3, .int x3)] (by decide) rfl dX0_give_18 ?_
      refine j_aload_n h 1 rfl rfl dX0_give_20 ?_
      refine j_get h hV.2.2.2.1 inX0 rfl 3 (by decide) rfl q1_107 rfl dX0_give_21 ?_
      refine j_iload_n h 3 rfl rfl dX0_give_24 ?_
      refine j_dup2 h rfl rfl dX0_give_25 ?_
      obtain ⟨hb_3, hF⟩ := bnd_row hF
      refine ja_iald h (get := fun v => v) (put := fun _ v => v) (hV.1 16 (by decide)) hb_3 dX0_give_26 ?_
      refine j_iload h 0 rfl dX0_give_27 ?_
      refine j_isub h dX0_give_29 ?_
      obtain ⟨hb_4, hF⟩ := bnd_row hF
      refine ja_iast h (get := fun v => v) (put := fun _ v => v) (hV.1 16 (by decide)) hb_4 dX0_give_30 ?_
      refine j_letS hF (fun S_5 hF => ?_)
      refine j_iload_n h 2 rfl rfl dX0_give_31 ?_
      refine j_iload h 0 rfl dX0_give_32 ?_
      refine j_isub h dX0_give_34 ?_
      refine j_let hF (fun x_6 hF => ?_)
      refine j_istore_n h hnL [(2, .int x_6), (4, .int x_2), (0, .ref (ad 25)), (3, .int x3)] rfl (by decide) rfl dX0_give_35 ?_
      refine j_iincL hF (fun x_7 ex_7 hF => ?_)
      refine j_iinc h hnL 3 [(3, .int x_7), (2, .int x_6), (4, .int x_2), (0, .ref (ad 25))] rfl ex_7 (by decide) (by decide) rfl dX0_give_36 ?_
      refine j_goto h 4 (by decide) dX0_give_39 ?_
      exact j_sub [3, 1, 0] rfl (ih _ _ _ hF)
set_option maxHeartbeats 4000000 in
set_option maxRecDepth 100000 in
theorem k_X0_give {X : JX VS} {ad : Nat → Nat} (h : OK X RX0 cX0_give rmX0_give) (hV : IsVill X.cI X.B ad) (hnL : X.nL = 5) {res : VS} {S : VS} {p1 : Int32} (hE : EXv X cX0_give res) (hF : f_X0_give S p1 = some res) : J X 0 [(0, .ref (ad 25)), (1, .int p1)] [] S := by
  rw [f_X0_give] at hF
  refine j_iload_n h 1 rfl rfl dX0_give_0 ?_
  refine j_istore_n h hnL [(2, .int p1), (0, .ref (ad 25)), (1, .int p1)] rfl (by decide) rfl dX0_give_1 ?_
  refine j_iconst h (v := 0) (by decide) dX0_give_2 ?_
  refine j_istore_n h hnL [(3, .int (0 : Int32)), (2, .int p1), (0, .ref (ad 25)), (1, .int p1)] rfl (by decide) rfl dX0_give_3 ?_
  exact j_sub [2, 1, 0] rfl (k_X0_give_4 h hV hnL hE fuel _ _ _ hF)
theorem c_X0_give (l : Launch) (D : va_G) (cI cZ cV : ClassId) {B : VS → va_W} {ad : Nat → Nat} (hV : IsVill cI B ad) (S : VS) (p1 : Int32) {r : VS} (hF : f_X0_give S p1 = some r) : CTv l D (jtys cI cZ cV) yX0_give cX0_give 5 none rmX0_give B [.ref (ad 25), .int p1] S r := by
  refine CTv.of [(0, .ref (ad 25)), (1, .int p1)] rfl (Nat.le_of_ble_eq_true rfl) (by decide) ⟨rfl, rfl⟩ (fun X e1 e2 e3 e4 e5 e6 e7 h hE => ?_)
  subst e1; subst e2; subst e3; subst e4; subst e5; subst e6
  exact k_X0_give h hV e7 hE hF
abbrev rmX0_canTake : Room := { frames := 1, cells := 0, slots := 0, locals := 21 }
theorem cw_X0_canTake : CWv RX0 yX0_canTake cX0_canTake 6 (some .int) 2 := ⟨q3_14, q3_15, q1_5, q3_16, ⟨rfl, by decide +kernel, by decide +kernel, by decide +kernel⟩⟩
set_option maxHeartbeats 4000000 in
set_option maxRecDepth 100000 in
theorem k_X0_canTake_40 {X : JX VS} {ad : Nat → Nat} (h : OK X RX0 cX0_canTake rmX0_canTake) (hV : IsVill X.cI X.B ad) (hnL : X.nL = 6) {res : Int32} {S : VS} {x1 : Int32} {x2 : Int32} {s0 : Int32} (hE : EXi X cX0_canTake res S) (hF : f_X0_canTake_40 S x1 x2 s0 = some res) : J X 40 [(0, .ref (ad 25)), (1, .int x1), (2, .int x2)] [.int s0] S := by
  rw [f_X0_canTake_40] at hF
  refine j_istore h hnL [(5, .int s0), (0, .ref (ad 25)), (1, .int x1), (2, .int x2)] (by decide) rfl dX0_canTake_40 ?_
  refine j_iload h 0 rfl dX0_canTake_42 ?_
  refine j_aload_n h 1 rfl rfl dX0_canTake_44 ?_
  refine j_get h hV.2.2.2.1 inX0 rfl 1 (by decide) rfl q1_105 rfl dX0_canTake_45 ?_
  refine j_iload_n h 2 rfl rfl dX0_canTake_48 ?_
  obtain ⟨hb_6, hF⟩ := bnd_row hF
  refine ja_iald h (get := fun v => v) (put := fun _ v => v) (hV.1 14 (by decide)) hb_6 dX0_canTake_49 ?_
  refine j_iload_n h 3 rfl rfl dX0_canTake_50 ?_
  refine j_min h q2_88 ⟨Nat.le_of_ble_eq_true rfl, Nat.le_of_ble_eq_true rfl⟩ dX0_canTake_51 ?_
  refine j_min h q2_88 ⟨Nat.le_of_ble_eq_true rfl, Nat.le_of_ble_eq_true rfl⟩ dX0_canTake_54 ?_
  cases hF
  exact hE _ _ dX0_canTake_57
set_option maxHeartbeats 4000000 in
set_option maxRecDepth 100000 in
theorem k_X0_canTake {X : JX VS} {ad : Nat → Nat} (h : OK X RX0 cX0_canTake rmX0_canTake) (hV : IsVill X.cI X.B ad) (hnL : X.nL = 6) {res : Int32} {S : VS} {p1 : Int32} {p2 : Int32} (hE : EXi X cX0_canTake res S) (hF : f_X0_canTake S p1 p2 = some res) : J X 0 [(0, .ref (ad 25)), (1, .int p1), (2, .int p2)] [] S := by
  rw [f_X0_canTake] at hF
  refine j_aload_n h 0 rfl rfl dX0_canTake_0 ?_
  refine j_get h hV.2.2.2.1 inX0 rfl 2 (by decide) rfl q1_106 rfl dX0_canTake_1 ?_
  refine j_iload_n h 1 rfl rfl dX0_canTake_4 ?_
  obtain ⟨hb_1, hF⟩ := bnd_row hF
  refine ja_iald h (get := fun v => v) (put := fun _ v => v) (hV.1 15 (by decide)) hb_1 dX0_canTake_5 ?_
  refine j_let hF (fun x_2 hF => ?_)
  refine j_istore_n h hnL [(3, .int x_2), (0, .ref (ad 25)), (1, .int p1), (2, .int p2)] rfl (by decide) rfl dX0_canTake_6 ?_
  refine j_aload_n h 1 rfl rfl dX0_canTake_7 ?_
  refine j_get h hV.2.2.2.1 inX0 rfl 0 (by decide) rfl q1_104 rfl dX0_canTake_8 ?_
  refine j_iload_n h 2 rfl rfl dX0_canTake_11 ?_
  obtain ⟨hb_3, hF⟩ := bnd_row hF
  refine ja_iald h (get := fun v => v) (put := fun _ v => v) (hV.1 13 (by decide)) hb_3 dX0_canTake_12 ?_
  refine j_aload_n h 1 rfl rfl dX0_canTake_13 ?_
  refine j_get h hV.2.2.2.1 inX0 rfl 3 (by decide) rfl q1_107 rfl dX0_canTake_14 ?_
  refine j_iload_n h 2 rfl rfl dX0_canTake_17 ?_
  obtain ⟨hb_4, hF⟩ := bnd_row hF
  refine ja_iald h (get := fun v => v) (put := fun _ v => v) (hV.1 16 (by decide)) hb_4 dX0_canTake_18 ?_
  refine j_isub h dX0_canTake_19 ?_
  refine j_let hF (fun x_5 hF => ?_)
  refine j_istore h hnL [(4, .int x_5), (3, .int x_2), (0, .ref (ad 25)), (1, .int p1), (2, .int p2)] (by decide) rfl dX0_canTake_20 ?_
  refine j_iload_n h 1 rfl rfl dX0_canTake_22 ?_
  refine j_if_le h 39 (by decide) dX0_canTake_23 hF (fun hF => ?_) (fun hF => ?_)
  · refine j_iconst h (v := 0) (by decide) dX0_canTake_39 ?_
    exact j_sub [2, 3, 4] rfl (k_X0_canTake_40 h hV hnL hE hF)
  · refine j_iload h 0 rfl dX0_canTake_26 ?_
    refine j_bipush h (v := 100) (by decide) dX0_canTake_28 ?_
    refine j_imul h dX0_canTake_30 ?_
    refine j_bipush h (v := 99) (by decide) dX0_canTake_31 ?_
    refine j_iadd h dX0_canTake_33 ?_
    refine j_iload_n h 1 rfl rfl dX0_canTake_34 ?_
    obtain ⟨hb_7, hF⟩ := bnd_row hF
    refine j_idiv h (nz_v hb_7) dX0_canTake_35 ?_
    refine j_goto h 40 (by decide) dX0_canTake_36 ?_
    exact j_sub [2, 3, 4] rfl (k_X0_canTake_40 h hV hnL hE hF)
theorem c_X0_canTake (l : Launch) (D : va_G) (cI cZ cV : ClassId) {B : VS → va_W} {ad : Nat → Nat} (hV : IsVill cI B ad) (S : VS) (p1 : Int32) (p2 : Int32) {r : Int32} (hF : f_X0_canTake S p1 p2 = some r) : CTi l D (jtys cI cZ cV) yX0_canTake cX0_canTake 6 (some .int) rmX0_canTake B [.ref (ad 25), .int p1, .int p2] S r S := by
  refine CTi.of [(0, .ref (ad 25)), (1, .int p1), (2, .int p2)] rfl (Nat.le_of_ble_eq_true rfl) (by decide) ⟨rfl, rfl⟩ (fun X e1 e2 e3 e4 e5 e6 e7 h hE => ?_)
  subst e1; subst e2; subst e3; subst e4; subst e5; subst e6
  exact k_X0_canTake h hV e7 hE hF
abbrev rmX0_takeIn : Room := { frames := 0, cells := 0, slots := 0, locals := 0 }
theorem cw_X0_takeIn : CWv RX0 yX0_takeIn cX0_takeIn 4 (some .int) 2 := ⟨q3_18, q3_19, q1_5, q3_20, ⟨rfl, by decide +kernel, by decide +kernel, by decide +kernel⟩⟩
set_option maxHeartbeats 4000000 in
set_option maxRecDepth 100000 in
theorem k_X0_takeIn {X : JX VS} {ad : Nat → Nat} (h : OK X RX0 cX0_takeIn rmX0_takeIn) (hV : IsVill X.cI X.B ad) (hnL : X.nL = 4) {res : Int32 × VS} {S : VS} {p1 : Int32} {p2 : Int32} (hE : EXi X cX0_takeIn res.1 res.2) (hF : f_X0_takeIn S p1 p2 = some res) : J X 0 [(0, .ref (ad 25)), (1, .int p1), (2, .int p2)] [] S := by
  rw [f_X0_takeIn] at hF
  refine j_iload_n h 2 rfl rfl dX0_takeIn_0 ?_
  refine j_aload_n h 0 rfl rfl dX0_takeIn_1 ?_
  refine j_get h hV.2.2.2.1 inX0 rfl 2 (by decide) rfl q1_106 rfl dX0_takeIn_2 ?_
  refine j_iload_n h 1 rfl rfl dX0_takeIn_5 ?_
  obtain ⟨hb_1, hF⟩ := bnd_row hF
  refine ja_iald h (get := fun v => v) (put := fun _ v => v) (hV.1 15 (by decide)) hb_1 dX0_takeIn_6 ?_
  refine j_imul h dX0_takeIn_7 ?_
  refine j_bipush h (v := 100) (by decide) dX0_takeIn_8 ?_
  refine j_idiv h (by decide) dX0_takeIn_10 ?_
  refine j_let hF (fun x_2 hF => ?_)
  refine j_istore_n h hnL [(3, .int x_2), (0, .ref (ad 25)), (1, .int p1), (2, .int p2)] rfl (by decide) rfl dX0_takeIn_11 ?_
  refine j_aload_n h 1 rfl rfl dX0_takeIn_12 ?_
  refine j_get h hV.2.2.2.1 inX0 rfl 3 (by decide) rfl q1_107 rfl dX0_takeIn_13 ?_
  refine j_iload_n h 2 rfl rfl dX0_takeIn_16 ?_
  refine j_dup2 h rfl rfl dX0_takeIn_17 ?_
  obtain ⟨hb_3, hF⟩ := bnd_row hF
  refine ja_iald h (get := fun v => v) (put := fun _ v => v) (hV.1 16 (by decide)) hb_3 dX0_takeIn_18 ?_
  refine j_iload_n h 0 rfl rfl dX0_takeIn_19 ?_
  refine j_iadd h dX0_takeIn_20 ?_
  obtain ⟨hb_4, hF⟩ := bnd_row hF
  refine ja_iast h (get := fun v => v) (put := fun _ v => v) (hV.1 16 (by decide)) hb_4 dX0_takeIn_21 ?_
  refine j_letS hF (fun S_5 hF => ?_)
  refine j_iload_n h 0 rfl rfl dX0_takeIn_22 ?_
  cases hF
  exact hE _ _ dX0_takeIn_23
theorem c_X0_takeIn (l : Launch) (D : va_G) (cI cZ cV : ClassId) {B : VS → va_W} {ad : Nat → Nat} (hV : IsVill cI B ad) (S : VS) (p1 : Int32) (p2 : Int32) {r : Int32 × VS} (hF : f_X0_takeIn S p1 p2 = some r) : CTi l D (jtys cI cZ cV) yX0_takeIn cX0_takeIn 4 (some .int) rmX0_takeIn B [.ref (ad 25), .int p1, .int p2] S r.1 r.2 := by
  refine CTi.of [(0, .ref (ad 25)), (1, .int p1), (2, .int p2)] rfl (Nat.le_of_ble_eq_true rfl) (by decide) ⟨rfl, rfl⟩ (fun X e1 e2 e3 e4 e5 e6 e7 h hE => ?_)
  subst e1; subst e2; subst e3; subst e4; subst e5; subst e6
  exact k_X0_takeIn h hV e7 hE hF
