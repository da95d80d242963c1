abbrev rmX2_copy : Room := { frames := 1, cells := 0, slots := 0, locals := 26 }
theorem cw_X2_copy : CWv RX2 yX2_copy cX2_copy 2 none 1 := ⟨q2_14, q2_15, q1_3, q2_16, ⟨rfl, by decide +kernel, by decide +kernel, by decide +kernel⟩⟩
set_option maxHeartbeats 4000000 in
set_option maxRecDepth 100000 in
theorem k_X2_copy {X : JX PS} {AD : Nat → Nat → Nat} {i : Nat} {j : Nat} (h : OK X RX2 cX2_copy rmX2_copy) (hP : IsPool X.cI X.cZ X.cV X.B AD) (hi : i < 12) (hj : j < 12) (hnL : X.nL = 2) {res : PS} {S : PS} (hE : EXv X cX2_copy res) (hF : f_X2_copy i j S = some res) : J X 0 [(0, .ref (AD i 23)), (1, .ref (AD j 23))] [] S := by
  rw [f_X2_copy] at hF
  refine j_aload_n h 0 rfl rfl dX2_copy_0 ?_
  refine j_aload_n h 1 rfl rfl dX2_copy_1 ?_
  refine j_get h (hP.1 j hj).2.1.o inX2 rfl 0 (by decide) rfl q1_30 rfl dX2_copy_2 ?_
  refine j_put h ((hP.1 i hi).2.1) inX2 tyX2_ok nmX2 rfl (by decide) rfl q1_30 (Nat.le_of_ble_eq_true rfl) dX2_copy_5 ?_
  refine j_letS hF (fun S_1 hF => ?_)
  refine j_aload_n h 1 rfl rfl dX2_copy_8 ?_
  refine j_get h (hP.1 j hj).2.1.o inX2 rfl 1 (by decide) rfl q1_33 rfl dX2_copy_9 ?_
  refine j_iconst h (v := 0) (by decide) dX2_copy_12 ?_
  refine j_aload_n h 0 rfl rfl dX2_copy_13 ?_
  refine j_get h (hP.1 i hi).2.1.o inX2 rfl 1 (by decide) rfl q1_33 rfl dX2_copy_14 ?_
  refine j_iconst h (v := 0) (by decide) dX2_copy_17 ?_
  refine j_bipush h (v := 10) (by decide) dX2_copy_18 ?_
  refine j_copy h 0 0 10 ((hP.1 j hj).1 0 (by decide)).a ((hP.1 i hi).1 0 (by decide)) rfl rfl rfl (by decide) (by decide) (by decide) (by decide) (by decide) q2_17 ⟨Nat.le_of_ble_eq_true rfl, Nat.le_of_ble_eq_true rfl⟩ dX2_copy_20 ?_
  refine j_letS hF (fun S_2 hF => ?_)
  refine j_aload_n h 1 rfl rfl dX2_copy_23 ?_
  refine j_get h (hP.1 j hj).2.1.o inX2 rfl 2 (by decide) rfl q1_35 rfl dX2_copy_24 ?_
  refine j_iconst h (v := 0) (by decide) dX2_copy_27 ?_
  refine j_aload_n h 0 rfl rfl dX2_copy_28 ?_
  refine j_get h (hP.1 i hi).2.1.o inX2 rfl 2 (by decide) rfl q1_35 rfl dX2_copy_29 ?_
  refine j_iconst h (v := 0) (by decide) dX2_copy_32 ?_
  refine j_bipush h (v := 10) (by decide) dX2_copy_33 ?_
  refine j_copy h 0 0 10 ((hP.1 j hj).1 1 (by decide)).a ((hP.1 i hi).1 1 (by decide)) rfl rfl rfl (by decide) (by decide) (by decide) (by decide) (by decide) q2_17 ⟨Nat.le_of_ble_eq_true rfl, Nat.le_of_ble_eq_true rfl⟩ dX2_copy_35 ?_
  refine j_letS hF (fun S_3 hF => ?_)
  refine j_aload_n h 1 rfl rfl dX2_copy_38 ?_
  refine j_get h (hP.1 j hj).2.1.o inX2 rfl 3 (by decide) rfl q1_37 rfl dX2_copy_39 ?_
  refine j_iconst h (v := 0) (by decide) dX2_copy_42 ?_
  refine j_aload_n h 0 rfl rfl dX2_copy_43 ?_
  refine j_get h (hP.1 i hi).2.1.o inX2 rfl 3 (by decide) rfl q1_37 rfl dX2_copy_44 ?_
  refine j_iconst h (v := 0) (by decide) dX2_copy_47 ?_
  refine j_bipush h (v := 10) (by decide) dX2_copy_48 ?_
  refine j_copy h 0 0 10 ((hP.1 j hj).1 2 (by decide)).a ((hP.1 i hi).1 2 (by decide)) rfl rfl rfl (by decide) (by decide) (by decide) (by decide) (by decide) q2_17 ⟨Nat.le_of_ble_eq_true rfl, Nat.le_of_ble_eq_true rfl⟩ dX2_copy_50 ?_
  refine j_letS hF (fun S_4 hF => ?_)
  refine j_aload_n h 1 rfl rfl dX2_copy_53 ?_
  refine j_get h (hP.1 j hj).2.1.o inX2 rfl 4 (by decide) rfl q1_39 rfl dX2_copy_54 ?_
  refine j_iconst h (v := 0) (by decide) dX2_copy_57 ?_
  refine j_aload_n h 0 rfl rfl dX2_copy_58 ?_
  refine j_get h (hP.1 i hi).2.1.o inX2 rfl 4 (by decide) rfl q1_39 rfl dX2_copy_59 ?_
  refine j_iconst h (v := 0) (by decide) dX2_copy_62 ?_
  refine j_bipush h (v := 10) (by decide) dX2_copy_63 ?_
  refine j_copy h 0 0 10 ((hP.1 j hj).1 3 (by decide)).a ((hP.1 i hi).1 3 (by decide)) rfl rfl rfl (by decide) (by decide) (by decide) (by decide) (by decide) q2_17 ⟨Nat.le_of_ble_eq_true rfl, Nat.le_of_ble_eq_true rfl⟩ dX2_copy_65 ?_
  refine j_letS hF (fun S_5 hF => ?_)
  refine j_aload_n h 1 rfl rfl dX2_copy_68 ?_
  refine j_get h (hP.1 j hj).2.1.o inX2 rfl 5 (by decide) rfl q1_40 rfl dX2_copy_69 ?_
  refine j_iconst h (v := 0) (by decide) dX2_copy_72 ?_
  refine j_aload_n h 0 rfl rfl dX2_copy_73 ?_
  refine j_get h (hP.1 i hi).2.1.o inX2 rfl 5 (by decide) rfl q1_40 rfl dX2_copy_74 ?_
  refine j_iconst h (v := 0) (by decide) dX2_copy_77 ?_
  refine j_bipush h (v := 10) (by decide) dX2_copy_78 ?_
  refine j_copy h 0 0 10 ((hP.1 j hj).1 4 (by decide)).a ((hP.1 i hi).1 4 (by decide)) rfl rfl rfl (by decide) (by decide) (by decide) (by decide) (by decide) q2_17 ⟨Nat.le_of_ble_eq_true rfl, Nat.le_of_ble_eq_true rfl⟩ dX2_copy_80 ?_
  refine j_letS hF (fun S_6 hF => ?_)
  refine j_aload_n h 1 rfl rfl dX2_copy_83 ?_
  refine j_get h (hP.1 j hj).2.1.o inX2 rfl 6 (by decide) rfl q1_43 rfl dX2_copy_84 ?_
  refine j_iconst h (v := 0) (by decide) dX2_copy_87 ?_
  refine j_aload_n h 0 rfl rfl dX2_copy_88 ?_
  refine j_get h (hP.1 i hi).2.1.o inX2 rfl 6 (by decide) rfl q1_43 rfl dX2_copy_89 ?_
  refine j_iconst h (v := 0) (by decide) dX2_copy_92 ?_
  refine j_bipush h (v := 10) (by decide) dX2_copy_93 ?_
  refine j_copy h 0 0 10 ((hP.1 j hj).1 5 (by decide)).a ((hP.1 i hi).1 5 (by decide)) rfl rfl rfl (by decide) (by decide) (by decide) (by decide) (by decide) q2_17 ⟨Nat.le_of_ble_eq_true rfl, Nat.le_of_ble_eq_true rfl⟩ dX2_copy_95 ?_
  refine j_letS hF (fun S_7 hF => ?_)
  refine j_aload_n h 1 rfl rfl dX2_copy_98 ?_
  refine j_get h (hP.1 j hj).2.1.o inX2 rfl 7 (by decide) rfl q1_45 rfl dX2_copy_99 ?_
  refine j_iconst h (v := 0) (by decide) dX2_copy_102 ?_
  refine j_aload_n h 0 rfl rfl dX2_copy_103 ?_
  refine j_get h (hP.1 i hi).2.1.o inX2 rfl 7 (by decide) rfl q1_45 rfl dX2_copy_104 ?_
  refine j_iconst h (v := 0) (by decide) dX2_copy_107 ?_
  refine j_bipush h (v := 10) (by decide) dX2_copy_108 ?_
  refine j_copy h 0 0 10 ((hP.1 j hj).1 6 (by decide)).a ((hP.1 i hi).1 6 (by decide)) rfl rfl rfl (by decide) (by decide) (by decide) (by decide) (by decide) q2_17 ⟨Nat.le_of_ble_eq_true rfl, Nat.le_of_ble_eq_true rfl⟩ dX2_copy_110 ?_
  refine j_letS hF (fun S_8 hF => ?_)
  refine j_aload_n h 1 rfl rfl dX2_copy_113 ?_
  refine j_get h (hP.1 j hj).2.1.o inX2 rfl 8 (by decide) rfl q1_46 rfl dX2_copy_114 ?_
  refine j_iconst h (v := 0) (by decide) dX2_copy_117 ?_
  refine j_aload_n h 0 rfl rfl dX2_copy_118 ?_
  refine j_get h (hP.1 i hi).2.1.o inX2 rfl 8 (by decide) rfl q1_46 rfl dX2_copy_119 ?_
  refine j_iconst h (v := 0) (by decide) dX2_copy_122 ?_
  refine j_bipush h (v := 10) (by decide) dX2_copy_123 ?_
  refine j_copy h 0 0 10 ((hP.1 j hj).1 7 (by decide)).a ((hP.1 i hi).1 7 (by decide)) rfl rfl rfl (by decide) (by decide) (by decide) (by decide) (by decide) q2_17 ⟨Nat.le_of_ble_eq_true rfl, Nat.le_of_ble_eq_true rfl⟩ dX2_copy_125 ?_
  refine j_letS hF (fun S_9 hF => ?_)
  cases hF
  exact hE _ _ dX2_copy_128
theorem c_X2_copy (l : Launch) (D : va_G) (cI cZ cV : ClassId) {B : PS → va_W} {AD : Nat → Nat → Nat} (hP : IsPool cI cZ cV B AD) {i : Nat} {j : Nat} (hi : i < 12) (hj : j < 12) (S : PS) {r : PS} (hF : f_X2_copy i j S = some r) : CTv l D (jtys cI cZ cV) yX2_copy cX2_copy 2 none rmX2_copy B [.ref (AD i 23), .ref (AD j 23)] S r := by
  refine CTv.of [(0, .ref (AD i 23)), (1, .ref (AD j 23))] rfl (Nat.le_of_ble_eq_true rfl) (by decide) ⟨rfl, rfl⟩ (fun X e1 e2 e3 e4 e5 e6 e7 h hE => ?_)
  subst e1; subst e2; subst e3; subst e4; subst e5; subst e6
  exact k_X2_copy h hP hi hj e7 hE hF
abbrev rmX2_add : Room := { frames := 0, cells := 0, slots := 0, locals := 0 }
theorem cw_X2_add : CWv RX2 yX2_add cX2_add 4 (some .int) 2 := ⟨q2_36, q2_37, q1_3, q2_38, ⟨rfl, by decide +kernel, by decide +kernel, by decide +kernel⟩⟩
set_option maxHeartbeats 4000000 in
set_option maxRecDepth 100000 in
theorem k_X2_add {X : JX VS} {ad : Nat → Nat} (h : OK X RX2 cX2_add rmX2_add) (hV : IsVill X.cI X.B ad) (hnL : X.nL = 4) {res : Int32 × VS} {S : VS} {p1 : Int32} {p2 : Int32} (hE : EXi X cX2_add res.1 res.2) (hF : f_X2_add S p1 p2 = some res) : J X 0 [(0, .ref (ad 23)), (1, .int p1), (2, .int p2)] [] S := by
  rw [f_X2_add] at hF
  refine j_aload_n h 0 rfl rfl dX2_add_0 ?_
  refine j_get h hV.2.1.o inX2 rfl 0 (by decide) rfl q1_30 rfl dX2_add_1 ?_
  refine j_let hF (fun x_1 hF => ?_)
  refine j_istore_n h hnL [(3, .int x_1), (0, .ref (ad 23)), (1, .int p1), (2, .int p2)] rfl (by decide) rfl dX2_add_4 ?_
  refine j_aload_n h 1 rfl rfl dX2_add_5 ?_
  refine j_get h hV.2.1.o inX2 rfl 1 (by decide) rfl q1_33 rfl dX2_add_6 ?_
  refine j_iload_n h 0 rfl rfl dX2_add_9 ?_
  refine j_iload_n h 2 rfl rfl dX2_add_10 ?_
  obtain ⟨hb_2, hF⟩ := bnd_row hF
  refine ja_iast h (get := fun v => v) (put := fun _ v => v) (hV.1 0 (by decide)) hb_2 dX2_add_11 ?_
  refine j_letS hF (fun S_3 hF => ?_)
  refine j_aload_n h 1 rfl rfl dX2_add_12 ?_
  refine j_get h hV.2.1.o inX2 rfl 2 (by decide) rfl q1_35 rfl dX2_add_13 ?_
  refine j_iload_n h 0 rfl rfl dX2_add_16 ?_
  refine j_iload_n h 3 rfl rfl dX2_add_17 ?_
  obtain ⟨hb_4, hF⟩ := bnd_row hF
  refine ja_iast h (get := fun v => v) (put := fun _ v => v) (hV.1 1 (by decide)) hb_4 dX2_add_18 ?_
  refine j_letS hF (fun S_5 hF => ?_)
  refine j_aload_n h 1 rfl rfl dX2_add_19 ?_
  refine j_get h hV.2.1.o inX2 rfl 3 (by decide) rfl q1_37 rfl dX2_add_20 ?_
  refine j_iload_n h 0 rfl rfl dX2_add_23 ?_
  refine j_iconst h (v := 0) (by decide) dX2_add_24 ?_
  obtain ⟨hb_6, hF⟩ := bnd_row hF
  refine ja_iast h (get := fun v => v) (put := fun _ v => v) (hV.1 2 (by decide)) hb_6 dX2_add_25 ?_
  refine j_letS hF (fun S_7 hF => ?_)
  refine j_aload_n h 1 rfl rfl dX2_add_26 ?_
  refine j_get h hV.2.1.o inX2 rfl 4 (by decide) rfl q1_39 rfl dX2_add_27 ?_
  refine j_iload_n h 0 rfl rfl dX2_add_30 ?_
  refine j_iconst h (v := 1) (by decide) dX2_add_31 ?_
  obtain ⟨hb_8, hF⟩ := bnd_row hF
  refine ja_iast h (get := fun v => v) (put := fun _ v => v) (hV.1 3 (by decide)) hb_8 dX2_add_32 ?_
  refine j_letS hF (fun S_9 hF => ?_)
  refine j_aload_n h 1 rfl rfl dX2_add_33 ?_
  refine j_get h hV.2.1.o inX2 rfl 5 (by decide) rfl q1_40 rfl dX2_add_34 ?_
  refine j_iload_n h 0 rfl rfl dX2_add_37 ?_
  refine j_iconst h (v := 0) (by decide) dX2_add_38 ?_
  obtain ⟨hb_10, hF⟩ := bnd_row hF
  refine ja_iast h (get := fun v => v) (put := fun _ v => v) (hV.1 4 (by decide)) hb_10 dX2_add_39 ?_
  refine j_letS hF (fun S_11 hF => ?_)
  refine j_aload_n h 1 rfl rfl dX2_add_40 ?_
  refine j_get h hV.2.1.o inX2 rfl 6 (by decide) rfl q1_43 rfl dX2_add_41 ?_
  refine j_iload_n h 0 rfl rfl dX2_add_44 ?_
  refine j_iconst h (v := 0) (by decide) dX2_add_45 ?_
  obtain ⟨hb_12, hF⟩ := bnd_row hF
  refine ja_iast h (get := fun v => v) (put := fun _ v => v) (hV.1 5 (by decide)) hb_12 dX2_add_46 ?_
  refine j_letS hF (fun S_13 hF => ?_)
  refine j_aload_n h 1 rfl rfl dX2_add_47 ?_
  refine j_get h hV.2.1.o inX2 rfl 7 (by decide) rfl q1_45 rfl dX2_add_48 ?_
  refine j_iload_n h 0 rfl rfl dX2_add_51 ?_
  refine j_iconst h (v := 0) (by decide) dX2_add_52 ?_
  obtain ⟨hb_14, hF⟩ := bnd_row hF
  refine ja_iast h (get := fun v => v) (put := fun _ v => v) (hV.1 6 (by decide)) hb_14 dX2_add_53 ?_
  refine j_letS hF (fun S_15 hF => ?_)
  refine j_aload_n h 1 rfl rfl dX2_add_54 ?_
  refine j_get h hV.2.1.o inX2 rfl 8 (by decide) rfl q1_46 rfl dX2_add_55 ?_
  refine j_iload_n h 0 rfl rfl dX2_add_58 ?_
  refine j_iconst h (v := 0) (by decide) dX2_add_59 ?_
  obtain ⟨hb_16, hF⟩ := bnd_row hF
  refine ja_iast h (get := fun v => v) (put := fun _ v => v) (hV.1 7 (by decide)) hb_16 dX2_add_60 ?_
  refine j_letS hF (fun S_17 hF => ?_)
  refine j_aload_n h 1 rfl rfl dX2_add_61 ?_
  refine j_dup h rfl dX2_add_62 ?_
  refine j_get h hV.2.1.o inX2 rfl 0 (by decide) rfl q1_30 rfl dX2_add_63 ?_
  refine j_iconst h (v := 1) (by decide) dX2_add_66 ?_
  refine j_iadd h dX2_add_67 ?_
  refine j_put h (hV.2.1) inX2 tyX2_ok nmX2 rfl (by decide) rfl q1_30 (Nat.le_of_ble_eq_true rfl) dX2_add_68 ?_
  refine j_letS hF (fun S_18 hF => ?_)
  refine j_iload_n h 0 rfl rfl dX2_add_71 ?_
  cases hF
  exact hE _ _ dX2_add_72
theorem c_X2_add (l : Launch) (D : va_G) (cI cZ cV : ClassId) {B : VS → va_W} {ad : Nat → Nat} (hV : IsVill cI B ad) (S : VS) (p1 : Int32) (p2 : Int32) {r : Int32 × VS} (hF : f_X2_add S p1 p2 = some r) : CTi l D (jtys cI cZ cV) yX2_add cX2_add 4 (some .int) rmX2_add B [.ref (ad 23), .int p1, .int p2] S r.1 r.2 := by
  refine CTi.of [(0, .ref (ad 23)), (1, .int p1), (2, .int p2)] rfl (Nat.le_of_ble_eq_true rfl) (by decide) ⟨rfl, rfl⟩ (fun X e1 e2 e3 e4 e5 e6 e7 h hE => ?_)
  subst e1; subst e2; subst e3; subst e4; subst e5; subst e6
  exact k_X2_add h hV e7 hE hF
abbrev rmX2_told : Room := { frames := 0, cells := 0, slots := 0, locals := 0 }
theorem cw_X2_told : CWv RX2 yX2_told cX2_told 3 (some .int) 2 := ⟨q2_53, q2_54, q1_3, q2_55, ⟨rfl, by decide +kernel, by decide +kernel, by decide +kernel⟩⟩
set_option maxHeartbeats 4000000 in
set_option maxRecDepth 100000 in
theorem k_X2_told_97 {X : JX VS} {ad : Nat → Nat} (h : OK X RX2 cX2_told rmX2_told) (hV : IsVill X.cI X.B ad) (hnL : X.nL = 3) {res : Int32} {S : VS} {x1 : Int32} (hE : EXi X cX2_told res S) (hF : f_X2_told_97 S x1 = some res) : J X 97 [(0, .ref (ad 23)), (1, .int x1)] [] S := by
  rw [f_X2_told_97] at hF
  refine j_aload_n h 0 rfl rfl dX2_told_97 ?_
  refine j_get h hV.2.1.o inX2 rfl 8 (by decide) rfl q1_46 rfl dX2_told_98 ?_
  refine j_iload_n h 1 rfl rfl dX2_told_101 ?_
  obtain ⟨hb_12, hF⟩ := bnd_row hF
  refine ja_iald h (get := fun v => v) (put := fun _ v => v) (hV.1 7 (by decide)) hb_12 dX2_told_102 ?_
  cases hF
  exact hE _ _ dX2_told_103
set_option maxHeartbeats 4000000 in
set_option maxRecDepth 100000 in
theorem k_X2_told {X : JX VS} {ad : Nat → Nat} (h : OK X RX2 cX2_told rmX2_told) (hV : IsVill X.cI X.B ad) (hnL : X.nL = 3) {res : Int32} {S : VS} {p1 : Int32} {p2 : Int32} (hE : EXi X cX2_told res S) (hF : f_X2_told S p1 p2 = some res) : J X 0 [(0, .ref (ad 23)), (1, .int p1), (2, .int p2)] [] S := by
  rw [f_X2_told] at hF
  refine j_iload_n h 2 rfl rfl dX2_told_0 ?_
  refine j_case hF (fun g_1 hF => ?_) (fun g_1 hF => ?_)
  · refine j_tableIn h (47) 48 0 g_1 (by decide) (by decide) (by decide) (by decide) dX2_told_1 ?_
    refine j_aload_n h 0 rfl rfl dX2_told_48 ?_
    refine j_get h hV.2.1.o inX2 rfl 1 (by decide) rfl q1_33 rfl dX2_told_49 ?_
    refine j_iload_n h 1 rfl rfl dX2_told_52 ?_
    obtain ⟨hb_2, hF⟩ := bnd_row hF
    refine ja_iald h (get := fun v => v) (put := fun _ v => v) (hV.1 0 (by decide)) hb_2 dX2_told_53 ?_
    cases hF
    exact hE _ _ dX2_told_54
  · have g_1 := sw_ne g_1 (n := 0) (by decide)
    refine j_case hF (fun g_3 hF => ?_) (fun g_3 hF => ?_)
    · refine j_tableIn h (54) 55 1 g_3 (by decide) (by decide) (by decide) (by decide) dX2_told_1 ?_
      refine j_aload_n h 0 rfl rfl dX2_told_55 ?_
      refine j_get h hV.2.1.o inX2 rfl 2 (by decide) rfl q1_35 rfl dX2_told_56 ?_
      refine j_iload_n h 1 rfl rfl dX2_told_59 ?_
      obtain ⟨hb_4, hF⟩ := bnd_row hF
      refine ja_iald h (get := fun v => v) (put := fun _ v => v) (hV.1 1 (by decide)) hb_4 dX2_told_60 ?_
      cases hF
      exact hE _ _ dX2_told_61
    · have g_3 := sw_ne g_3 (n := 1) (by decide)
      refine j_case hF (fun g_5 hF => ?_) (fun g_5 hF => ?_)
      · refine j_tableIn h (61) 62 2 g_5 (by decide) (by decide) (by decide) (by decide) dX2_told_1 ?_
        refine j_aload_n h 0 rfl rfl dX2_told_62 ?_
        refine j_get h hV.2.1.o inX2 rfl 3 (by decide) rfl q1_37 rfl dX2_told_63 ?_
        refine j_iload_n h 1 rfl rfl dX2_told_66 ?_
        obtain ⟨hb_6, hF⟩ := bnd_row hF
        refine ja_iald h (get := fun v => v) (put := fun _ v => v) (hV.1 2 (by decide)) hb_6 dX2_told_67 ?_
        cases hF
        exact hE _ _ dX2_told_68
      · have g_5 := sw_ne g_5 (n := 2) (by decide)
        refine j_case hF (fun g_7 hF => ?_) (fun g_7 hF => ?_)
        · refine j_tableIn h (68) 69 3 g_7 (by decide) (by decide) (by decide) (by decide) dX2_told_1 ?_
          refine j_aload_n h 0 rfl rfl dX2_told_69 ?_
          refine j_get h hV.2.1.o inX2 rfl 4 (by decide) rfl q1_39 rfl dX2_told_70 ?_
          refine j_iload_n h 1 rfl rfl dX2_told_73 ?_
          obtain ⟨hb_8, hF⟩ := bnd_row hF
          refine ja_iald h (get := fun v => v) (put := fun _ v => v) (hV.1 3 (by decide)) hb_8 dX2_told_74 ?_
          cases hF
          exact hE _ _ dX2_told_75
        · have g_7 := sw_ne g_7 (n := 3) (by decide)
          refine j_case hF (fun g_9 hF => ?_) (fun g_9 hF => ?_)
          · refine j_tableIn h (75) 76 4 g_9 (by decide) (by decide) (by decide) (by decide) dX2_told_1 ?_
            refine j_aload_n h 0 rfl rfl dX2_told_76 ?_
            refine j_get h hV.2.1.o inX2 rfl 5 (by decide) rfl q1_40 rfl dX2_told_77 ?_
            refine j_iload_n h 1 rfl rfl dX2_told_80 ?_
            obtain ⟨hb_10, hF⟩ := bnd_row hF
            refine ja_iald h (get := fun v => v) (put := fun _ v => v) (hV.1 4 (by decide)) hb_10 dX2_told_81 ?_
            cases hF
            exact hE _ _ dX2_told_82
          · have g_9 := sw_ne g_9 (n := 4) (by decide)
            refine j_case hF (fun g_11 hF => ?_) (fun g_11 hF => ?_)
            · refine j_tableIn h (96) 97 5 g_11 (by decide) (by decide) (by decide) (by decide) dX2_told_1 ?_
              exact j_sub [0, 1] rfl (k_X2_told_97 h hV hnL hE hF)
            · have g_11 := sw_ne g_11 (n := 5) (by decide)
              refine j_case hF (fun g_13 hF => ?_) (fun g_13 hF => ?_)
              · refine j_tableIn h (82) 83 6 g_13 (by decide) (by decide) (by decide) (by decide) dX2_told_1 ?_
                refine j_aload_n h 0 rfl rfl dX2_told_83 ?_
                refine j_get h hV.2.1.o inX2 rfl 6 (by decide) rfl q1_43 rfl dX2_told_84 ?_
                refine j_iload_n h 1 rfl rfl dX2_told_87 ?_
                obtain ⟨hb_14, hF⟩ := bnd_row hF
                refine ja_iald h (get := fun v => v) (put := fun _ v => v) (hV.1 5 (by decide)) hb_14 dX2_told_88 ?_
                cases hF
                exact hE _ _ dX2_told_89
              · have g_13 := sw_ne g_13 (n := 6) (by decide)
                refine j_case hF (fun g_15 hF => ?_) (fun g_15 hF => ?_)
                · refine j_tableIn h (89) 90 7 g_15 (by decide) (by decide) (by decide) (by decide) dX2_told_1 ?_
                  refine j_aload_n h 0 rfl rfl dX2_told_90 ?_
                  refine j_get h hV.2.1.o inX2 rfl 7 (by decide) rfl q1_45 rfl dX2_told_91 ?_
                  refine j_iload_n h 1 rfl rfl dX2_told_94 ?_
                  obtain ⟨hb_16, hF⟩ := bnd_row hF
                  refine ja_iald h (get := fun v => v) (put := fun _ v => v) (hV.1 6 (by decide)) hb_16 dX2_told_95 ?_
                  cases hF
                  exact hE _ _ dX2_told_96
                · have g_15 := sw_ne g_15 (n := 7) (by decide)
                  refine j_tableOut h 97 (by omega) (by decide) dX2_told_1 ?_
                  exact j_sub [0, 1] rfl (k_X2_told_97 h hV hnL hE hF)
theorem c_X2_told (l : Launch) (D : va_G) (cI cZ cV : ClassId) {B : VS → va_W} {ad : Nat → Nat} (hV : IsVill cI B ad) (S : VS) (p1 : Int32) (p2 : Int32) {r : Int32} (hF : f_X2_told S p1 p2 = some r) : CTi l D (jtys cI cZ cV) yX2_told cX2_told 3 (some .int) rmX2_told B [.ref (ad 23), .int p1, .int p2] S r S := by
  refine CTi.of [(0, .ref (ad 23)), (1, .int p1), (2, .int p2)] rfl (Nat.le_of_ble_eq_true rfl) (by decide) ⟨rfl, rfl⟩ (fun X e1 e2 e3 e4 e5 e6 e7 h hE => ?_)
  subst e1; subst e2; subst e3; subst e4; subst e5; subst e6
  exact k_X2_told h hV e7 hE hF
abbrev rmX2_change : Room := { frames := 0, cells := 0, slots := 0, locals := 0 }
theorem cw_X2_change : CWv RX2 yX2_change cX2_change 4 none 3 := ⟨q2_57, q2_58, q1_3, q2_59, ⟨rfl, by decide +kernel, by decide +kernel, by decide +kernel⟩⟩
set_option maxHeartbeats 4000000 in
set_option maxRecDepth 100000 in
theorem k_X2_change {X : JX VS} {ad : Nat → Nat} (h : OK X RX2 cX2_change rmX2_change) (hV : IsVill X.cI X.B ad) (hnL : X.nL = 4) {res : VS} {S : VS} {p1 : Int32} {p2 : Int32} {p3 : Int32} (hE : EXv X cX2_change res) (hF : f_X2_change S p1 p2 p3 = some res) : J X 0 [(0, .ref (ad 23)), (1, .int p1), (2, .int p2), (3, .int p3)] [] S := by
  rw [f_X2_change] at hF
  refine j_iload_n h 2 rfl rfl dX2_change_0 ?_
  refine j_case hF (fun g_1 hF => ?_) (fun g_1 hF => ?_)
  · refine j_tableIn h (27) 28 0 g_1 (by decide) (by decide) (by decide) (by decide) dX2_change_1 ?_
    refine j_aload_n h 0 rfl rfl dX2_change_28 ?_
    refine j_get h hV.2.1.o inX2 rfl 1 (by decide) rfl q1_33 rfl dX2_change_29 ?_
    refine j_iload_n h 1 rfl rfl dX2_change_32 ?_
    refine j_iload_n h 3 rfl rfl dX2_change_33 ?_
    obtain ⟨hb_2, hF⟩ := bnd_row hF
    refine ja_iast h (get := fun v => v) (put := fun _ v => v) (hV.1 0 (by decide)) hb_2 dX2_change_34 ?_
    refine j_letS hF (fun S_3 hF => ?_)
    refine j_goto h 65 (by decide) dX2_change_35 ?_
    cases hF
    exact hE _ _ dX2_change_65
  · have g_1 := sw_ne g_1 (n := 0) (by decide)
    refine j_case hF (fun g_4 hF => ?_) (fun g_4 hF => ?_)
    · refine j_tableIn h (37) 38 1 g_4 (by decide) (by decide) (by decide) (by decide) dX2_change_1 ?_
      refine j_aload_n h 0 rfl rfl dX2_change_38 ?_
      refine j_get h hV.2.1.o inX2 rfl 2 (by decide) rfl q1_35 rfl dX2_change_39 ?_
      refine j_iload_n h 1 rfl rfl dX2_change_42 ?_
      refine j_iload_n h 3 rfl rfl dX2_change_43 ?_
      obtain ⟨hb_5, hF⟩ := bnd_row hF
      refine ja_iast h (get := fun v => v) (put := fun _ v => v) (hV.1 1 (by decide)) hb_5 dX2_change_44 ?_
      refine j_letS hF (fun S_6 hF => ?_)
      refine j_goto h 65 (by decide) dX2_change_45 ?_
      cases hF
      exact hE _ _ dX2_change_65
    · have g_4 := sw_ne g_4 (n := 1) (by decide)
      refine j_case hF (fun g_7 hF => ?_) (fun g_7 hF => ?_)
      · refine j_tableIn h (47) 48 2 g_7 (by decide) (by decide) (by decide) (by decide) dX2_change_1 ?_
        refine j_aload_n h 0 rfl rfl dX2_change_48 ?_
        refine j_get h hV.2.1.o inX2 rfl 3 (by decide) rfl q1_37 rfl dX2_change_49 ?_
        refine j_iload_n h 1 rfl rfl dX2_change_52 ?_
        refine j_iload_n h 3 rfl rfl dX2_change_53 ?_
        obtain ⟨hb_8, hF⟩ := bnd_row hF
        refine ja_iast h (get := fun v => v) (put := fun _ v => v) (hV.1 2 (by decide)) hb_8 dX2_change_54 ?_
        refine j_letS hF (fun S_9 hF => ?_)
        refine j_goto h 65 (by decide) dX2_change_55 ?_
        cases hF
        exact hE _ _ dX2_change_65
      · have g_7 := sw_ne g_7 (n := 2) (by decide)
        refine j_tableOut h 58 (by omega) (by decide) dX2_change_1 ?_
        refine j_aload_n h 0 rfl rfl dX2_change_58 ?_
        refine j_get h hV.2.1.o inX2 rfl 4 (by decide) rfl q1_39 rfl dX2_change_59 ?_
        refine j_iload_n h 1 rfl rfl dX2_change_62 ?_
        refine j_iload_n h 3 rfl rfl dX2_change_63 ?_
        obtain ⟨hb_10, hF⟩ := bnd_row hF
        refine ja_iast h (get := fun v => v) (put := fun _ v => v) (hV.1 3 (by decide)) hb_10 dX2_change_64 ?_
        refine j_letS hF (fun S_11 hF => ?_)
        cases hF
        exact hE _ _ dX2_change_65
theorem c_X2_change (l : Launch) (D : va_G) (cI cZ cV : ClassId) {B : VS → va_W} {ad : Nat → Nat} (hV : IsVill cI B ad) (S : VS) (p1 : Int32) (p2 : Int32) (p3 : Int32) {r : VS} (hF : f_X2_change S p1 p2 p3 = some r) : CTv l D (jtys cI cZ cV) yX2_change cX2_change 4 none rmX2_change B [.ref (ad 23), .int p1, .int p2, .int p3] S r := by
  refine CTv.of [(0, .ref (ad 23)), (1, .int p1), (2, .int p2), (3, .int p3)] rfl (Nat.le_of_ble_eq_true rfl) (by decide) ⟨rfl, rfl⟩ (fun X e1 e2 e3 e4 e5 e6 e7 h hE => ?_)
  subst e1; subst e2; subst e3; subst e4; subst e5; subst e6
  exact k_X2_change h hV e7 hE hF
abbrev rmX2_canDraw : Room := { frames := 1, cells := 0, slots := 0, locals := 21 }
theorem cw_X2_canDraw : CWv RX2 yX2_canDraw cX2_canDraw 3 (some .int) 2 := ⟨q2_208, q2_209, q1_3, q2_210, ⟨rfl, by decide +kernel, by decide +kernel, by decide +kernel⟩⟩
set_option maxHeartbeats 4000000 in
set_option maxRecDepth 100000 in
theorem k_X2_canDraw {X : JX VS} {ad : Nat → Nat} (h : OK X RX2 cX2_canDraw rmX2_canDraw) (hV : IsVill X.cI X.B ad) (hnL : X.nL = 3) {res : Int32} {S : VS} {p1 : Int32} {p2 : Int32} (hE : EXi X cX2_canDraw res S) (hF : f_X2_canDraw S p1 p2 = some res) : J X 0 [(0, .ref (ad 23)), (1, .int p1), (2, .int p2)] [] S := by
  rw [f_X2_canDraw] at hF
  refine j_aload_n h 0 rfl rfl dX2_canDraw_0 ?_
  refine j_get h hV.2.1.o inX2 rfl 4 (by decide) rfl q1_39 rfl dX2_canDraw_1 ?_
  refine j_iload_n h 1 rfl rfl dX2_canDraw_4 ?_
  obtain ⟨hb_1, hF⟩ := bnd_row hF
  refine ja_iald h (get := fun v => v) (put := fun _ v => v) (hV.1 3 (by decide)) hb_1 dX2_canDraw_5 ?_
  refine j_if_ne h 11 (by decide) dX2_canDraw_6 hF (fun hF => ?_) (fun hF => ?_)
  · refine j_iconst h (v := 0) (by decide) dX2_canDraw_9 ?_
    cases hF
    exact hE _ _ dX2_canDraw_10
  · refine j_iconst h (v := 0) (by decide) dX2_canDraw_11 ?_
    refine j_aload_n h 0 rfl rfl dX2_canDraw_12 ?_
    refine j_get h hV.2.1.o inX2 rfl 2 (by decide) rfl q1_35 rfl dX2_canDraw_13 ?_
    refine j_iload_n h 1 rfl rfl dX2_canDraw_16 ?_
    obtain ⟨hb_2, hF⟩ := bnd_row hF
    refine ja_iald h (get := fun v => v) (put := fun _ v => v) (hV.1 1 (by decide)) hb_2 dX2_canDraw_17 ?_
    refine j_aload_n h 0 rfl rfl dX2_canDraw_18 ?_
    refine j_get h hV.2.1.o inX2 rfl 5 (by decide) rfl q1_40 rfl dX2_canDraw_19 ?_
    refine j_iload_n h 1 rfl rfl dX2_canDraw_22 ?_
    obtain ⟨hb_3, hF⟩ := bnd_row hF
    refine ja_iald h (get := fun v => v) (put := fun _ v => v) (hV.1 4 (by decide)) hb_3 dX2_canDraw_23 ?_
    refine j_iload_n h 2 rfl rfl dX2_canDraw_24 ?_
    refine j_iadd h dX2_canDraw_25 ?_
    refine j_min h q2_211 ⟨Nat.le_of_ble_eq_true rfl, Nat.le_of_ble_eq_true rfl⟩ dX2_canDraw_26 ?_
    refine j_max h q2_212 ⟨Nat.le_of_ble_eq_true rfl, Nat.le_of_ble_eq_true rfl⟩ dX2_canDraw_29 ?_
    cases hF
    exact hE _ _ dX2_canDraw_32
theorem c_X2_canDraw (l : Launch) (D : va_G) (cI cZ cV : ClassId) {B : VS → va_W} {ad : Nat → Nat} (hV : IsVill cI B ad) (S : VS) (p1 : Int32) (p2 : Int32) {r : Int32} (hF : f_X2_canDraw S p1 p2 = some r) : CTi l D (jtys cI cZ cV) yX2_canDraw cX2_canDraw 3 (some .int) rmX2_canDraw B [.ref (ad 23), .int p1, .int p2] S r S := by
  refine CTi.of [(0, .ref (ad 23)), (1, .int p1), (2, .int p2)] rfl (Nat.le_of_ble_eq_true rfl) (by decide) ⟨rfl, rfl⟩ (fun X e1 e2 e3 e4 e5 e6 e7 h hE => ?_)
  subst e1; subst e2; subst e3; subst e4; subst e5; subst e6
  exact k_X2_canDraw h hV e7 hE hF
abbrev rmX2_wantAll : Room := { frames := 2, cells := 0, slots := 0, locals := 43 }
theorem cw_X2_wantAll : CWv RX2 yX2_wantAll cX2_wantAll 3 none 1 := ⟨q2_204, q2_205, q1_3, q2_206, ⟨rfl, by decide +kernel, by decide +kernel, by decide +kernel⟩⟩
set_option maxHeartbeats 4000000 in
set_option maxRecDepth 100000 in
theorem k_X2_wantAll_2 {X : JX VS} {ad : Nat → Nat} (h : OK X RX2 cX2_wantAll rmX2_wantAll) (hV : IsVill X.cI X.B ad) (hnL : X.nL = 3) {res : VS} {x1 : Int32} (hE : EXv X cX2_wantAll res) : ∀ (n : Nat) (x2 : Int32) (S : VS), f_X2_wantAll_2 x1 n x2 S = some res → J X 2 [(0, .ref (ad 23)), (1, .int x1), (2, .int x2)] [] S := by
  intro n
  induction n with
  | zero =>
    intro x2 S hF
    rw [f_X2_wantAll_2] at hF
    cases hF
  | succ n ih =>
    intro x2 S hF
    rw [f_X2_wantAll_2] at hF
    refine j_iload_n h 2 rfl rfl dX2_wantAll_2 ?_
    refine j_aload_n h 0 rfl rfl dX2_wantAll_3 ?_
    refine j_get h hV.2.1.o inX2 rfl 0 (by decide) rfl q1_30 rfl dX2_wantAll_4 ?_
    refine j_icmp_ge h 40 (by decide) dX2_wantAll_7 hF (fun hF => ?_) (fun hF => ?_)
    · cases hF
      exact hE _ _ dX2_wantAll_40
    · refine j_aload_n h 0 rfl rfl dX2_wantAll_10 ?_
      refine j_get h hV.2.1.o inX2 rfl 9 (by decide) rfl q1_47 rfl dX2_wantAll_11 ?_
      refine j_iload_n h 2 rfl rfl dX2_wantAll_14 ?_
      refine j_aload_n h 0 rfl rfl dX2_wantAll_15 ?_
      refine j_iload_n h 2 rfl rfl dX2_wantAll_16 ?_
      refine j_iload_n h 1 rfl rfl dX2_wantAll_17 ?_
      obtain ⟨r_1, hr_1, hF⟩ := bind_row hF
      refine j_callVi h (st := [.int x2, .ref (ad 8)]) (S' := S) (c_X2_canDraw X.l X.D X.cI X.cZ X.cV hV S x2 x1 hr_1) rfl rfl q2_207 cw_X2_canDraw hV.2.1.o rfl rfl rfl ⟨rfl, rfl, Nat.le_of_ble_eq_true rfl, Nat.le_of_ble_eq_true rfl⟩ _ rfl (Nat.le_of_ble_eq_true rfl) dX2_wantAll_18 ?_
      obtain ⟨hb_2, hF⟩ := bnd_row hF
      refine ja_iast h (get := fun v => v) (put := fun _ v => v) (hV.1 8 (by decide)) hb_2 dX2_wantAll_21 ?_
      refine j_letS hF (fun S_3 hF => ?_)
      refine j_aload_n h 0 rfl rfl dX2_wantAll_22 ?_
      refine j_get h hV.2.1.o inX2 rfl 10 (by decide) rfl q1_48 rfl dX2_wantAll_23 ?_
      refine j_iload_n h 2 rfl rfl dX2_wantAll_26 ?_
      refine j_aload_n h 0 rfl rfl dX2_wantAll_27 ?_
      refine j_get h hV.2.1.o inX2 rfl 9 (by decide) rfl q1_47 rfl dX2_wantAll_28 ?_
      refine j_iload_n h 2 rfl rfl dX2_wantAll_31 ?_
      obtain ⟨hb_4, hF⟩ := bnd_row hF
      refine ja_iald h (get := fun v => v) (put := fun _ v => v) (hV.1 8 (by decide)) hb_4 dX2_wantAll_32 ?_
      obtain ⟨hb_5, hF⟩ := bnd_row hF
      refine ja_iast h (get := fun v => v) (put := fun _ v => v) (hV.1 9 (by decide)) hb_5 dX2_wantAll_33 ?_
      refine j_letS hF (fun S_6 hF => ?_)
      refine j_iincL hF (fun x_7 ex_7 hF => ?_)
      refine j_iinc h hnL 2 [(2, .int x_7), (0, .ref (ad 23)), (1, .int x1)] rfl ex_7 (by decide) (by decide) rfl dX2_wantAll_34 ?_
      refine j_goto h 2 (by decide) dX2_wantAll_37 ?_
      exact j_sub [1, 2, 0] rfl (ih _ _ hF)
set_option maxHeartbeats 4000000 in
set_option maxRecDepth 100000 in
theorem k_X2_wantAll {X : JX VS} {ad : Nat → Nat} (h : OK X RX2 cX2_wantAll rmX2_wantAll) (hV : IsVill X.cI X.B ad) (hnL : X.nL = 3) {res : VS} {S : VS} {p1 : Int32} (hE : EXv X cX2_wantAll res) (hF : f_X2_wantAll S p1 = some res) : J X 0 [(0, .ref (ad 23)), (1, .int p1)] [] S := by
  rw [f_X2_wantAll] at hF
  refine j_iconst h (v := 0) (by decide) dX2_wantAll_0 ?_
  refine j_istore_n h hnL [(2, .int (0 : Int32)), (0, .ref (ad 23)), (1, .int p1)] rfl (by decide) rfl dX2_wantAll_1 ?_
  exact j_sub [1, 2, 0] rfl (k_X2_wantAll_2 h hV hnL hE fuel _ _ hF)
theorem c_X2_wantAll (l : Launch) (D : va_G) (cI cZ cV : ClassId) {B : VS → va_W} {ad : Nat → Nat} (hV : IsVill cI B ad) (S : VS) (p1 : Int32) {r : VS} (hF : f_X2_wantAll S p1 = some r) : CTv l D (jtys cI cZ cV) yX2_wantAll cX2_wantAll 3 none rmX2_wantAll B [.ref (ad 23), .int p1] S r := by
  refine CTv.of [(0, .ref (ad 23)), (1, .int p1)] rfl (Nat.le_of_ble_eq_true rfl) (by decide) ⟨rfl, rfl⟩ (fun X e1 e2 e3 e4 e5 e6 e7 h hE => ?_)
  subst e1; subst e2; subst e3; subst e4; subst e5; subst e6
  exact k_X2_wantAll h hV e7 hE hF
abbrev rmX2_sum : Room := { frames := 0, cells := 0, slots := 0, locals := 0 }
theorem cw_X2_sum : CWv RX2 yX2_sum cX2_sum 4 (some .int) 1 := ⟨q2_218, q2_219, q1_3, q2_220, ⟨rfl, by decide +kernel, by decide +kernel, by decide +kernel⟩⟩
set_option maxHeartbeats 4000000 in
set_option maxRecDepth 100000 in
theorem k_X2_sum_4 {X : JX VS} {ad : Nat → Nat} {k1 : Nat} (h : OK X RX2 cX2_sum rmX2_sum) (hV : IsVill X.cI X.B ad) (h_k1 : k1 < 22) (hnL : X.nL = 4) {res : Int32} {S : VS} (hE : EXi X cX2_sum res S) : ∀ (n : Nat) (x2 : Int32) (x3 : Int32), f_X2_sum_4 k1 S n x2 x3 = some res → J X 4 [(0, .ref (ad 23)), (1, .ref (ad k1)), (2, .int x2), (3, .int x3)] [] S := by
  intro n
  induction n with
  | zero =>
    intro x2 x3 hF
    rw [f_X2_sum_4] at hF
    cases hF
  | succ n ih =>
    intro x2 x3 hF
    rw [f_X2_sum_4] at hF
    refine j_iload_n h 3 rfl rfl dX2_sum_4 ?_
    refine j_aload_n h 0 rfl rfl dX2_sum_5 ?_
    refine j_get h hV.2.1.o inX2 rfl 0 (by decide) rfl q1_30 rfl dX2_sum_6 ?_
    refine j_icmp_ge h 24 (by decide) dX2_sum_9 hF (fun hF => ?_) (fun hF => ?_)
    · refine j_iload_n h 2 rfl rfl dX2_sum_24 ?_
      cases hF
      exact hE _ _ dX2_sum_25
    · refine j_iload_n h 2 rfl rfl dX2_sum_12 ?_
      refine j_aload_n h 1 rfl rfl dX2_sum_13 ?_
      refine j_iload_n h 3 rfl rfl dX2_sum_14 ?_
      obtain ⟨hb_1, hF⟩ := bnd_row hF
      refine ja_iald h (get := fun v => v) (put := fun _ v => v) (hV.1 k1 h_k1) hb_1 dX2_sum_15 ?_
      refine j_iadd h dX2_sum_16 ?_
      refine j_let hF (fun x_2 hF => ?_)
      refine j_istore_n h hnL [(2, .int x_2), (0, .ref (ad 23)), (1, .ref (ad k1)), (3, .int x3)] rfl (by decide) rfl dX2_sum_17 ?_
      refine j_iincL hF (fun x_3 ex_3 hF => ?_)
      refine j_iinc h hnL 3 [(3, .int x_3), (2, .int x_2), (0, .ref (ad 23)), (1, .ref (ad k1))] rfl ex_3 (by decide) (by decide) rfl dX2_sum_18 ?_
      refine j_goto h 4 (by decide) dX2_sum_21 ?_
      exact j_sub [2, 3, 1, 0] rfl (ih _ _ hF)
set_option maxHeartbeats 4000000 in
set_option maxRecDepth 100000 in
theorem k_X2_sum {X : JX VS} {ad : Nat → Nat} {k1 : Nat} (h : OK X RX2 cX2_sum rmX2_sum) (hV : IsVill X.cI X.B ad) (h_k1 : k1 < 22) (hnL : X.nL = 4) {res : Int32} {S : VS} (hE : EXi X cX2_sum res S) (hF : f_X2_sum k1 S = some res) : J X 0 [(0, .ref (ad 23)), (1, .ref (ad k1))] [] S := by
  rw [f_X2_sum] at hF
  refine j_iconst h (v := 0) (by decide) dX2_sum_0 ?_
  refine j_istore_n h hnL [(2, .int (0 : Int32)), (0, .ref (ad 23)), (1, .ref (ad k1))] rfl (by decide) rfl dX2_sum_1 ?_
  refine j_iconst h (v := 0) (by decide) dX2_sum_2 ?_
  refine j_istore_n h hnL [(3, .int (0 : Int32)), (2, .int (0 : Int32)), (0, .ref (ad 23)), (1, .ref (ad k1))] rfl (by decide) rfl dX2_sum_3 ?_
  exact j_sub [2, 3, 1, 0] rfl (k_X2_sum_4 h hV h_k1 hnL hE fuel _ _ hF)
theorem c_X2_sum (l : Launch) (D : va_G) (cI cZ cV : ClassId) {B : VS → va_W} {ad : Nat → Nat} (hV : IsVill cI B ad) {k1 : Nat} (h_k1 : k1 < 22) (S : VS) {r : Int32} (hF : f_X2_sum k1 S = some r) : CTi l D (jtys cI cZ cV) yX2_sum cX2_sum 4 (some .int) rmX2_sum B [.ref (ad 23), .ref (ad k1)] S r S := by
  refine CTi.of [(0, .ref (ad 23)), (1, .ref (ad k1))] rfl (Nat.le_of_ble_eq_true rfl) (by decide) ⟨rfl, rfl⟩ (fun X e1 e2 e3 e4 e5 e6 e7 h hE => ?_)
  subst e1; subst e2; subst e3; subst e4; subst e5; subst e6
  exact k_X2_sum h hV h_k1 e7 hE hF
abbrev rmX2_sumFrom : Room := { frames := 0, cells := 0, slots := 0, locals := 0 }
theorem cw_X2_sumFrom : CWv RX2 yX2_sumFrom cX2_sumFrom 5 (some .int) 2 := ⟨q2_222, q2_223, q1_3, q2_224, ⟨rfl, by decide +kernel, by decide +kernel, by decide +kernel⟩⟩
set_option maxHeartbeats 4000000 in
set_option maxRecDepth 100000 in
theorem k_X2_sumFrom_34 {X : JX VS} {ad : Nat → Nat} {k2 : Nat} (h : OK X RX2 cX2_sumFrom rmX2_sumFrom) (hV : IsVill X.cI X.B ad) (h_k2 : k2 < 22) (hnL : X.nL = 5) {res : Int32} {S : VS} {x1 : Int32} {x4 : Int32} {s0 : Int32} {s1 : Int32} {K5 : Int32 → Int32 → Option (Int32)} (hK5 : ∀ (x3 : Int32) (x4 : Int32), K5 x3 x4 = some res → J X 5 [(0, .ref (ad 23)), (1, .int x1), (2, .ref (ad k2)), (3, .int x3), (4, .int x4)] [] S) (hE : EXi X cX2_sumFrom res S) (hF : f_X2_sumFrom_34 K5 k2 S x1 x4 s0 s1 = some res) : J X 34 [(0, .ref (ad 23)), (1, .int x1), (2, .ref (ad k2)), (4, .int x4)] [.int s0, .int s1] S := by
  rw [f_X2_sumFrom_34] at hF
  refine j_iadd h dX2_sumFrom_34 ?_
  refine j_let hF (fun x_3 hF => ?_)
  refine j_istore_n h hnL [(3, .int x_3), (0, .ref (ad 23)), (1, .int x1), (2, .ref (ad k2)), (4, .int x4)] rfl (by decide) rfl dX2_sumFrom_35 ?_
  refine j_iincL hF (fun x_4 ex_4 hF => ?_)
  refine j_iinc h hnL 4 [(4, .int x_4), (3, .int x_3), (0, .ref (ad 23)), (1, .int x1), (2, .ref (ad k2))] rfl ex_4 (by decide) (by decide) rfl dX2_sumFrom_36 ?_
  refine j_goto h 5 (by decide) dX2_sumFrom_39 ?_
  exact j_sub [2, 3, 4, 1, 0] rfl (hK5 _ _ hF)
set_option maxHeartbeats 4000000 in
set_option maxRecDepth 100000 in
theorem k_X2_sumFrom_5 {X : JX VS} {ad : Nat → Nat} {k2 : Nat} (h : OK X RX2 cX2_sumFrom rmX2_sumFrom) (hV : IsVill X.cI X.B ad) (h_k2 : k2 < 22) (hnL : X.nL = 5) {res : Int32} {S : VS} {x1 : Int32} (hE : EXi X cX2_sumFrom res S) : ∀ (n : Nat) (x3 : Int32) (x4 : Int32), f_X2_sumFrom_5 k2 S x1 n x3 x4 = some res → J X 5 [(0, .ref (ad 23)), (1, .int x1), (2, .ref (ad k2)), (3, .int x3), (4, .int x4)] [] S := by
  intro n
  induction n with
  | zero =>
    intro x3 x4 hF
    rw [f_X2_sumFrom_5] at hF
    cases hF
  | succ n ih =>
    intro x3 x4 hF
    rw [f_X2_sumFrom_5] at hF
    refine j_iload h 4 rfl dX2_sumFrom_5 ?_
    refine j_aload_n h 0 rfl rfl dX2_sumFrom_7 ?_
    refine j_get h hV.2.1.o inX2 rfl 0 (by decide) rfl q1_30 rfl dX2_sumFrom_8 ?_
    refine j_icmp_ge h 42 (by decide) dX2_sumFrom_11 hF (fun hF => ?_) (fun hF => ?_)
    · refine j_iload_n h 3 rfl rfl dX2_sumFrom_42 ?_
      cases hF
      exact hE _ _ dX2_sumFrom_43
    · refine j_iload_n h 3 rfl rfl dX2_sumFrom_14 ?_
      refine j_aload_n h 0 rfl rfl dX2_sumFrom_15 ?_
      refine j_get h hV.2.1.o inX2 rfl 1 (by decide) rfl q1_33 rfl dX2_sumFrom_16 ?_
      refine j_iload h 4 rfl dX2_sumFrom_19 ?_
      obtain ⟨hb_1, hF⟩ := bnd_row hF
      refine ja_iald h (get := fun v => v) (put := fun _ v => v) (hV.1 0 (by decide)) hb_1 dX2_sumFrom_21 ?_
      refine j_iload_n h 1 rfl rfl dX2_sumFrom_22 ?_
      refine j_icmp_ne h 33 (by decide) dX2_sumFrom_23 hF (fun hF => ?_) (fun hF => ?_)
      · refine j_aload_n h 2 rfl rfl dX2_sumFrom_26 ?_
        refine j_iload h 4 rfl dX2_sumFrom_27 ?_
        obtain ⟨hb_2, hF⟩ := bnd_row hF
        refine ja_iald h (get := fun v => v) (put := fun _ v => v) (hV.1 k2 h_k2) hb_2 dX2_sumFrom_29 ?_
        refine j_goto h 34 (by decide) dX2_sumFrom_30 ?_
        exact j_sub [0, 1, 2, 4] rfl (k_X2_sumFrom_34 h hV h_k2 hnL ih hE hF)
      · refine j_iconst h (v := 0) (by decide) dX2_sumFrom_33 ?_
        exact j_sub [0, 1, 2, 4] rfl (k_X2_sumFrom_34 h hV h_k2 hnL ih hE hF)
set_option maxHeartbeats 4000000 in
set_option maxRecDepth 100000 in
theorem k_X2_sumFrom {X : JX VS} {ad : Nat → Nat} {k2 : Nat} (h : OK X RX2 cX2_sumFrom rmX2_sumFrom) (hV : IsVill X.cI X.B ad) (h_k2 : k2 < 22) (hnL : X.nL = 5) {res : Int32} {S : VS} {p1 : Int32} (hE : EXi X cX2_sumFrom res S) (hF : f_X2_sumFrom k2 S p1 = some res) : J X 0 [(0, .ref (ad 23)), (1, .int p1), (2, .ref (ad k2))] [] S := by
  rw [f_X2_sumFrom] at hF
  refine j_iconst h (v := 0) (by decide) dX2_sumFrom_0 ?_
  refine j_istore_n h hnL [(3, .int (0 : Int32)), (0, .ref (ad 23)), (1, .int p1), (2, .ref (ad k2))] rfl (by decide) rfl dX2_sumFrom_1 ?_
  refine j_iconst h (v := 0) (by decide) dX2_sumFrom_2 ?_
  refine j_istore h hnL [(4, .int (0 : Int32)), (3, .int (0 : Int32)), (0, .ref (ad 23)), (1, .int p1), (2, .ref (ad k2))] (by decide) rfl dX2_sumFrom_3 ?_
  exact j_sub [2, 3, 4, 1, 0] rfl (k_X2_sumFrom_5 h hV h_k2 hnL hE fuel _ _ hF)
theorem c_X2_sumFrom (l : Launch) (D : va_G) (cI cZ cV : ClassId) {B : VS → va_W} {ad : Nat → Nat} (hV : IsVill cI B ad) {k2 : Nat} (h_k2 : k2 < 22) (S : VS) (p1 : Int32) {r : Int32} (hF : f_X2_sumFrom k2 S p1 = some r) : CTi l D (jtys cI cZ cV) yX2_sumFrom cX2_sumFrom 5 (some .int) rmX2_sumFrom B [.ref (ad 23), .int p1, .ref (ad k2)] S r S := by
  refine CTi.of [(0, .ref (ad 23)), (1, .int p1), (2, .ref (ad k2))] rfl (Nat.le_of_ble_eq_true rfl) (by decide) ⟨rfl, rfl⟩ (fun X e1 e2 e3 e4 e5 e6 e7 h hE => ?_)
  subst e1; subst e2; subst e3; subst e4; subst e5; subst e6
  exact k_X2_sumFrom h hV h_k2 e7 hE hF
abbrev rmX2_wantNothing : Room := { frames := 0, cells := 0, slots := 0, locals := 0 }
theorem cw_X2_wantNothing : CWv RX2 yX2_wantNothing cX2_wantNothing 3 none 1 := ⟨q2_226, q2_227, q1_3, q2_228, ⟨rfl, by decide +kernel, by decide +kernel, by decide +kernel⟩⟩
set_option maxHeartbeats 4000000 in
set_option maxRecDepth 100000 in
theorem k_X2_wantNothing_27 {X : JX VS} {ad : Nat → Nat} (h : OK X RX2 cX2_wantNothing rmX2_wantNothing) (hV : IsVill X.cI X.B ad) (hnL : X.nL = 3) {res : VS} {S : VS} {x1 : Int32} {x2 : Int32} {K2 : Int32 → VS → Option (VS)} (hK2 : ∀ (x2 : Int32) (S : VS), K2 x2 S = some res → J X 2 [(0, .ref (ad 23)), (1, .int x1), (2, .int x2)] [] S) (hE : EXv X cX2_wantNothing res) (hF : f_X2_wantNothing_27 K2 S x1 x2 = some res) : J X 27 [(0, .ref (ad 23)), (1, .int x1), (2, .int x2)] [] S := by
  rw [f_X2_wantNothing_27] at hF
  refine j_iincL hF (fun x_4 ex_4 hF => ?_)
  refine j_iinc h hnL 2 [(2, .int x_4), (0, .ref (ad 23)), (1, .int x1)] rfl ex_4 (by decide) (by decide) rfl dX2_wantNothing_27 ?_
  refine j_goto h 2 (by decide) dX2_wantNothing_30 ?_
  exact j_sub [1, 2, 0] rfl (hK2 _ _ hF)
set_option maxHeartbeats 4000000 in
set_option maxRecDepth 100000 in
theorem k_X2_wantNothing_2 {X : JX VS} {ad : Nat → Nat} (h : OK X RX2 cX2_wantNothing rmX2_wantNothing) (hV : IsVill X.cI X.B ad) (hnL : X.nL = 3) {res : VS} {x1 : Int32} (hE : EXv X cX2_wantNothing res) : ∀ (n : Nat) (x2 : Int32) (S : VS), f_X2_wantNothing_2 x1 n x2 S = some res → J X 2 [(0, .ref (ad 23)), (1, .int x1), (2, .int x2)] [] S := by
  intro n
  induction n with
  | zero =>
    intro x2 S hF
    rw [f_X2_wantNothing_2] at hF
    cases hF
  | succ n ih =>
    intro x2 S hF
    rw [f_X2_wantNothing_2] at hF
    refine j_iload_n h 2 rfl rfl dX2_wantNothing_2 ?_
    refine j_aload_n h 0 rfl rfl dX2_wantNothing_3 ?_
    refine j_get h hV.2.1.o inX2 rfl 0 (by decide) rfl q1_30 rfl dX2_wantNothing_4 ?_
    refine j_icmp_ge h 33 (by decide) dX2_wantNothing_7 hF (fun hF => ?_) (fun hF => ?_)
    · cases hF
      exact hE _ _ dX2_wantNothing_33
    · refine j_aload_n h 0 rfl rfl dX2_wantNothing_10 ?_
      refine j_get h hV.2.1.o inX2 rfl 1 (by decide) rfl q1_33 rfl dX2_wantNothing_11 ?_
      refine j_iload_n h 2 rfl rfl dX2_wantNothing_14 ?_
      obtain ⟨hb_1, hF⟩ := bnd_row hF
      refine ja_iald h (get := fun v => v) (put := fun _ v => v) (hV.1 0 (by decide)) hb_1 dX2_wantNothing_15 ?_
      refine j_iload_n h 1 rfl rfl dX2_wantNothing_16 ?_
      refine j_icmp_ne h 27 (by decide) dX2_wantNothing_17 hF (fun hF => ?_) (fun hF => ?_)
      · refine j_aload_n h 0 rfl rfl dX2_wantNothing_20 ?_
        refine j_get h hV.2.1.o inX2 rfl 10 (by decide) rfl q1_48 rfl dX2_wantNothing_21 ?_
        refine j_iload_n h 2 rfl rfl dX2_wantNothing_24 ?_
        refine j_iconst h (v := 0) (by decide) dX2_wantNothing_25 ?_
        obtain ⟨hb_2, hF⟩ := bnd_row hF
        refine ja_iast h (get := fun v => v) (put := fun _ v => v) (hV.1 9 (by decide)) hb_2 dX2_wantNothing_26 ?_
        refine j_letS hF (fun S_3 hF => ?_)
        exact j_sub [0, 1, 2] rfl (k_X2_wantNothing_27 h hV hnL ih hE hF)
      · exact j_sub [0, 1, 2] rfl (k_X2_wantNothing_27 h hV hnL ih hE hF)
set_option maxHeartbeats 4000000 in
set_option maxRecDepth 100000 in
theorem k_X2_wantNothing {X : JX VS} {ad : Nat → Nat} (h : OK X RX2 cX2_wantNothing rmX2_wantNothing) (hV : IsVill X.cI X.B ad) (hnL : X.nL = 3) {res : VS} {S : VS} {p1 : Int32} (hE : EXv X cX2_wantNothing res) (hF : f_X2_wantNothing S p1 = some res) : J X 0 [(0, .ref (ad 23)), (1, .int p1)] [] S := by
  rw [f_X2_wantNothing] at hF
  refine j_iconst h (v := 0) (by decide) dX2_wantNothing_0 ?_
  refine j_istore_n h hnL [(2, .int (0 : Int32)), (0, .ref (ad 23)), (1, .int p1)] rfl (by decide) rfl dX2_wantNothing_1 ?_
  exact j_sub [1, 2, 0] rfl (k_X2_wantNothing_2 h hV hnL hE fuel _ _ hF)
theorem c_X2_wantNothing (l : Launch) (D : va_G) (cI cZ cV : ClassId) {B : VS → va_W} {ad : Nat → Nat} (hV : IsVill cI B ad) (S : VS) (p1 : Int32) {r : VS} (hF : f_X2_wantNothing S p1 = some r) : CTv l D (jtys cI cZ cV) yX2_wantNothing cX2_wantNothing 3 none rmX2_wantNothing B [.ref (ad 23), .int p1] S r := by
  refine CTv.of [(0, .ref (ad 23)), (1, .int p1)] rfl (Nat.le_of_ble_eq_true rfl) (by decide) ⟨rfl, rfl⟩ (fun X e1 e2 e3 e4 e5 e6 e7 h hE => ?_)
  subst e1; subst e2; subst e3; subst e4; subst e5; subst e6
  exact k_X2_wantNothing h hV e7 hE hF
abbrev rmX2_reasonOf : Room := { frames := 0, cells := 0, slots := 0, locals := 0 }
theorem cw_X2_reasonOf : CWv RX2 yX2_reasonOf cX2_reasonOf 3 (some .int) 2 := ⟨q3_3, qs8, q1_3, q3_4, ⟨rfl, by decide +kernel, by decide +kernel, by decide +kernel⟩⟩
set_option maxHeartbeats 4000000 in
set_option maxRecDepth 100000 in
theorem k_X2_reasonOf {X : JX VS} {ad : Nat → Nat} (h : OK X RX2 cX2_reasonOf rmX2_reasonOf) (hV : IsVill X.cI X.B ad) (hnL : X.nL = 3) {res : Int32} {S : VS} {p1 : Int32} {p2 : Int32} (hE : EXi X cX2_reasonOf res S) (hF : f_X2_reasonOf S p1 p2 = some res) : J X 0 [(0, .ref (ad 23)), (1, .int p1), (2, .int p2)] [] S := by
  rw [f_X2_reasonOf] at hF
  refine j_aload_n h 0 rfl rfl dX2_reasonOf_0 ?_
  refine j_get h hV.2.1.o inX2 rfl 6 (by decide) rfl q1_43 rfl dX2_reasonOf_1 ?_
  refine j_iload_n h 1 rfl rfl dX2_reasonOf_4 ?_
  obtain ⟨hb_1, hF⟩ := bnd_row hF
  refine ja_iald h (get := fun v => v) (put := fun _ v => v) (hV.1 5 (by decide)) hb_1 dX2_reasonOf_5 ?_
  refine j_aload_n h 0 rfl rfl dX2_reasonOf_6 ?_
  refine j_get h hV.2.1.o inX2 rfl 2 (by decide) rfl q1_35 rfl dX2_reasonOf_7 ?_
  refine j_iload_n h 1 rfl rfl dX2_reasonOf_10 ?_
  obtain ⟨hb_2, hF⟩ := bnd_row hF
  refine ja_iald h (get := fun v => v) (put := fun _ v => v) (hV.1 1 (by decide)) hb_2 dX2_reasonOf_11 ?_
  refine j_icmp_ne h 17 (by decide) dX2_reasonOf_12 hF (fun hF => ?_) (fun hF => ?_)
  · refine j_iconst h (v := 0) (by decide) dX2_reasonOf_15 ?_
    cases hF
    exact hE _ _ dX2_reasonOf_16
  · refine j_aload_n h 0 rfl rfl dX2_reasonOf_17 ?_
    refine j_get h hV.2.1.o inX2 rfl 4 (by decide) rfl q1_39 rfl dX2_reasonOf_18 ?_
    refine j_iload_n h 1 rfl rfl dX2_reasonOf_21 ?_
    obtain ⟨hb_3, hF⟩ := bnd_row hF
    refine ja_iald h (get := fun v => v) (put := fun _ v => v) (hV.1 3 (by decide)) hb_3 dX2_reasonOf_22 ?_
    refine j_if_ne h 28 (by decide) dX2_reasonOf_23 hF (fun hF => ?_) (fun hF => ?_)
    · refine j_iconst h (v := 1) (by decide) dX2_reasonOf_26 ?_
      cases hF
      exact hE _ _ dX2_reasonOf_27
    · refine j_aload_n h 0 rfl rfl dX2_reasonOf_28 ?_
      refine j_get h hV.2.1.o inX2 rfl 9 (by decide) rfl q1_47 rfl dX2_reasonOf_29 ?_
      refine j_iload_n h 1 rfl rfl dX2_reasonOf_32 ?_
      obtain ⟨hb_4, hF⟩ := bnd_row hF
      refine ja_iald h (get := fun v => v) (put := fun _ v => v) (hV.1 8 (by decide)) hb_4 dX2_reasonOf_33 ?_
      refine j_aload_n h 0 rfl rfl dX2_reasonOf_34 ?_
      refine j_get h hV.2.1.o inX2 rfl 2 (by decide) rfl q1_35 rfl dX2_reasonOf_35 ?_
      refine j_iload_n h 1 rfl rfl dX2_reasonOf_38 ?_
      obtain ⟨hb_5, hF⟩ := bnd_row hF
      refine ja_iald h (get := fun v => v) (put := fun _ v => v) (hV.1 1 (by decide)) hb_5 dX2_reasonOf_39 ?_
      refine j_icmp_ge h 45 (by decide) dX2_reasonOf_40 hF (fun hF => ?_) (fun hF => ?_)
      · refine j_iload_n h 2 rfl rfl dX2_reasonOf_45 ?_
        refine j_if_eq h 53 (by decide) dX2_reasonOf_46 hF (fun hF => ?_) (fun hF => ?_)
        · refine j_iconst h (v := 4) (by decide) dX2_reasonOf_53 ?_
          cases hF
          exact hE _ _ dX2_reasonOf_54
        · refine j_iconst h (v := 3) (by decide) dX2_reasonOf_49 ?_
          refine j_goto h 54 (by decide) dX2_reasonOf_50 ?_
          cases hF
          exact hE _ _ dX2_reasonOf_54
      · refine j_iconst h (v := 2) (by decide) dX2_reasonOf_43 ?_
        cases hF
        exact hE _ _ dX2_reasonOf_44
theorem c_X2_reasonOf (l : Launch) (D : va_G) (cI cZ cV : ClassId) {B : VS → va_W} {ad : Nat → Nat} (hV : IsVill cI B ad) (S : VS) (p1 : Int32) (p2 : Int32) {r : Int32} (hF : f_X2_reasonOf S p1 p2 = some r) : CTi l D (jtys cI cZ cV) yX2_reasonOf cX2_reasonOf 3 (some .int) rmX2_reasonOf B [.ref (ad 23), .int p1, .int p2] S r S := by
  refine CTi.of [(0, .ref (ad 23)), (1, .int p1), (2, .int p2)] rfl (Nat.le_of_ble_eq_true rfl) (by decide) ⟨rfl, rfl⟩ (fun X e1 e2 e3 e4 e5 e6 e7 h hE => ?_)
  subst e1; subst e2; subst e3; subst e4; subst e5; subst e6
  exact k_X2_reasonOf h hV e7 hE hF
abbrev rmX2_receive : Room := { frames := 1, cells := 0, slots := 0, locals := 22 }
theorem cw_X2_receive : CWv RX2 yX2_receive cX2_receive 4 none 3 := ⟨q2_238, q2_239, q1_3, q3_0, ⟨rfl, by decide +kernel, by decide +kernel, by decide +kernel⟩⟩
set_option maxHeartbeats 4000000 in
set_option maxRecDepth 100000 in
theorem k_X2_receive {X : JX VS} {ad : Nat → Nat} (h : OK X RX2 cX2_receive rmX2_receive) (hV : IsVill X.cI X.B ad) (hnL : X.nL = 4) {res : VS} {S : VS} {p1 : Int32} {p2 : Int32} {p3 : Int32} (hE : EXv X cX2_receive res) (hF : f_X2_receive S p1 p2 p3 = some res) : J X 0 [(0, .ref (ad 23)), (1, .int p1), (2, .int p2), (3, .int p3)] [] S := by
  rw [f_X2_receive] at hF
  refine j_aload_n h 0 rfl rfl dX2_receive_0 ?_
  refine j_get h hV.2.1.o inX2 rfl 6 (by decide) rfl q1_43 rfl dX2_receive_1 ?_
  refine j_iload_n h 1 rfl rfl dX2_receive_4 ?_
  refine j_iload_n h 2 rfl rfl dX2_receive_5 ?_
  obtain ⟨hb_1, hF⟩ := bnd_row hF
  refine ja_iast h (get := fun v => v) (put := fun _ v => v) (hV.1 5 (by decide)) hb_1 dX2_receive_6 ?_
  refine j_letS hF (fun S_2 hF => ?_)
  refine j_aload_n h 0 rfl rfl dX2_receive_7 ?_
  refine j_get h hV.2.1.o inX2 rfl 8 (by decide) rfl q1_46 rfl dX2_receive_8 ?_
  refine j_iload_n h 1 rfl rfl dX2_receive_11 ?_
  refine j_dup2 h rfl rfl dX2_receive_12 ?_
  obtain ⟨hb_3, hF⟩ := bnd_row hF
  refine ja_iald h (get := fun v => v) (put := fun _ v => v) (hV.1 7 (by decide)) hb_3 dX2_receive_13 ?_
  refine j_iload_n h 2 rfl rfl dX2_receive_14 ?_
  refine j_iadd h dX2_receive_15 ?_
  obtain ⟨hb_4, hF⟩ := bnd_row hF
  refine ja_iast h (get := fun v => v) (put := fun _ v => v) (hV.1 7 (by decide)) hb_4 dX2_receive_16 ?_
  refine j_letS hF (fun S_5 hF => ?_)
  refine j_aload_n h 0 rfl rfl dX2_receive_17 ?_
  refine j_get h hV.2.1.o inX2 rfl 5 (by decide) rfl q1_40 rfl dX2_receive_18 ?_
  refine j_iload_n h 1 rfl rfl dX2_receive_21 ?_
  refine j_dup2 h rfl rfl dX2_receive_22 ?_
  obtain ⟨hb_6, hF⟩ := bnd_row hF
  refine ja_iald h (get := fun v => v) (put := fun _ v => v) (hV.1 4 (by decide)) hb_6 dX2_receive_23 ?_
  refine j_iload_n h 2 rfl rfl dX2_receive_24 ?_
  refine j_isub h dX2_receive_25 ?_
  obtain ⟨hb_7, hF⟩ := bnd_row hF
  refine ja_iast h (get := fun v => v) (put := fun _ v => v) (hV.1 4 (by decide)) hb_7 dX2_receive_26 ?_
  refine j_letS hF (fun S_8 hF => ?_)
  refine j_aload_n h 0 rfl rfl dX2_receive_27 ?_
  refine j_get h hV.2.1.o inX2 rfl 7 (by decide) rfl q1_45 rfl dX2_receive_28 ?_
  refine j_iload_n h 1 rfl rfl dX2_receive_31 ?_
  refine j_aload_n h 0 rfl rfl dX2_receive_32 ?_
  refine j_iload_n h 1 rfl rfl dX2_receive_33 ?_
  refine j_iload_n h 3 rfl rfl dX2_receive_34 ?_
  obtain ⟨r_9, hr_9, hF⟩ := bind_row hF
  refine j_callVi h (st := [.int p1, .ref (ad 6)]) (S' := S_8) (c_X2_reasonOf X.l X.D X.cI X.cZ X.cV hV S_8 p1 p3 hr_9) rfl rfl q3_1 cw_X2_reasonOf hV.2.1.o rfl rfl rfl ⟨rfl, rfl, Nat.le_of_ble_eq_true rfl, Nat.le_of_ble_eq_true rfl⟩ _ rfl (Nat.le_of_ble_eq_true rfl) dX2_receive_35 ?_
  obtain ⟨hb_10, hF⟩ := bnd_row hF
  refine ja_iast h (get := fun v => v) (put := fun _ v => v) (hV.1 6 (by decide)) hb_10 dX2_receive_38 ?_
  refine j_letS hF (fun S_11 hF => ?_)
  cases hF
  exact hE _ _ dX2_receive_39
theorem c_X2_receive (l : Launch) (D : va_G) (cI cZ cV : ClassId) {B : VS → va_W} {ad : Nat → Nat} (hV : IsVill cI B ad) (S : VS) (p1 : Int32) (p2 : Int32) (p3 : Int32) {r : VS} (hF : f_X2_receive S p1 p2 p3 = some r) : CTv l D (jtys cI cZ cV) yX2_receive cX2_receive 4 none rmX2_receive B [.ref (ad 23), .int p1, .int p2, .int p3] S r := by
  refine CTv.of [(0, .ref (ad 23)), (1, .int p1), (2, .int p2), (3, .int p3)] rfl (Nat.le_of_ble_eq_true rfl) (by decide) ⟨rfl, rfl⟩ (fun X e1 e2 e3 e4 e5 e6 e7 h hE => ?_)
  subst e1; subst e2; subst e3; subst e4; subst e5; subst e6
  exact k_X2_receive h hV e7 hE hF
abbrev rmX2_overdrawn : Room := { frames := 0, cells := 0, slots := 0, locals := 0 }
theorem cw_X2_overdrawn : CWv RX2 yX2_overdrawn cX2_overdrawn 3 (some .int) 0 := ⟨q3_80, q3_81, q1_3, q3_82, ⟨rfl, by decide +kernel, by decide +kernel, by decide +kernel⟩⟩
set_option maxHeartbeats 4000000 in
set_option maxRecDepth 100000 in
theorem k_X2_overdrawn_27 {X : JX VS} {ad : Nat → Nat} (h : OK X RX2 cX2_overdrawn rmX2_overdrawn) (hV : IsVill X.cI X.B ad) (hnL : X.nL = 3) {res : Int32} {S : VS} {x2 : Int32} {s0 : Int32} {s1 : Int32} {K4 : Int32 → Int32 → Option (Int32)} (hK4 : ∀ (x1 : Int32) (x2 : Int32), K4 x1 x2 = some res → J X 4 [(0, .ref (ad 23)), (1, .int x1), (2, .int x2)] [] S) (hE : EXi X cX2_overdrawn res S) (hF : f_X2_overdrawn_27 K4 S x2 s0 s1 = some res) : J X 27 [(0, .ref (ad 23)), (2, .int x2)] [.int s0, .int s1] S := by
  rw [f_X2_overdrawn_27] at hF
  refine j_iadd h dX2_overdrawn_27 ?_
  refine j_let hF (fun x_2 hF => ?_)
  refine j_istore_n h hnL [(1, .int x_2), (0, .ref (ad 23)), (2, .int x2)] rfl (by decide) rfl dX2_overdrawn_28 ?_
  refine j_iincL hF (fun x_3 ex_3 hF => ?_)
  refine j_iinc h hnL 2 [(2, .int x_3), (1, .int x_2), (0, .ref (ad 23))] rfl ex_3 (by decide) (by decide) rfl dX2_overdrawn_29 ?_
  refine j_goto h 4 (by decide) dX2_overdrawn_32 ?_
  exact j_sub [2, 1, 0] rfl (hK4 _ _ hF)
set_option maxHeartbeats 4000000 in
set_option maxRecDepth 100000 in
theorem k_X2_overdrawn_4 {X : JX VS} {ad : Nat → Nat} (h : OK X RX2 cX2_overdrawn rmX2_overdrawn) (hV : IsVill X.cI X.B ad) (hnL : X.nL = 3) {res : Int32} {S : VS} (hE : EXi X cX2_overdrawn res S) : ∀ (n : Nat) (x1 : Int32) (x2 : Int32), f_X2_overdrawn_4 S n x1 x2 = some res → J X 4 [(0, .ref (ad 23)), (1, .int x1), (2, .int x2)] [] S := by
  intro n
  induction n with
  | zero =>
    intro x1 x2 hF
    rw [f_X2_overdrawn_4] at hF
    cases hF
  | succ n ih =>
    intro x1 x2 hF
    rw [f_X2_overdrawn_4] at hF
    refine j_iload_n h 2 rfl rfl dX2_overdrawn_4 ?_
    refine j_aload_n h 0 rfl rfl dX2_overdrawn_5 ?_
    refine j_get h hV.2.1.o inX2 rfl 0 (by decide) rfl q1_30 rfl dX2_overdrawn_6 ?_
    refine j_icmp_ge h 35 (by decide) dX2_overdrawn_9 hF (fun hF => ?_) (fun hF => ?_)
    · refine j_iload_n h 1 rfl rfl dX2_overdrawn_35 ?_
      cases hF
      exact hE _ _ dX2_overdrawn_36
    · refine j_iload_n h 1 rfl rfl dX2_overdrawn_12 ?_
      refine j_aload_n h 0 rfl rfl dX2_overdrawn_13 ?_
      refine j_get h hV.2.1.o inX2 rfl 5 (by decide) rfl q1_40 rfl dX2_overdrawn_14 ?_
      refine j_iload_n h 2 rfl rfl dX2_overdrawn_17 ?_
      obtain ⟨hb_1, hF⟩ := bnd_row hF
      refine ja_iald h (get := fun v => v) (put := fun _ v => v) (hV.1 4 (by decide)) hb_1 dX2_overdrawn_18 ?_
      refine j_if_ge h 26 (by decide) dX2_overdrawn_19 hF (fun hF => ?_) (fun hF => ?_)
      · refine j_iconst h (v := 0) (by decide) dX2_overdrawn_26 ?_
        exact j_sub [0, 2] rfl (k_X2_overdrawn_27 h hV hnL ih hE hF)
      · refine j_iconst h (v := 1) (by decide) dX2_overdrawn_22 ?_
        refine j_goto h 27 (by decide) dX2_overdrawn_23 ?_
        exact j_sub [0, 2] rfl (k_X2_overdrawn_27 h hV hnL ih hE hF)
set_option maxHeartbeats 4000000 in
set_option maxRecDepth 100000 in
theorem k_X2_overdrawn {X : JX VS} {ad : Nat → Nat} (h : OK X RX2 cX2_overdrawn rmX2_overdrawn) (hV : IsVill X.cI X.B ad) (hnL : X.nL = 3) {res : Int32} {S : VS} (hE : EXi X cX2_overdrawn res S) (hF : f_X2_overdrawn S = some res) : J X 0 [(0, .ref (ad 23))] [] S := by
  rw [f_X2_overdrawn] at hF
  refine j_iconst h (v := 0) (by decide) dX2_overdrawn_0 ?_
  refine j_istore_n h hnL [(1, .int (0 : Int32)), (0, .ref (ad 23))] rfl (by decide) rfl dX2_overdrawn_1 ?_
  refine j_iconst h (v := 0) (by decide) dX2_overdrawn_2 ?_
  refine j_istore_n h hnL [(2, .int (0 : Int32)), (1, .int (0 : Int32)), (0, .ref (ad 23))] rfl (by decide) rfl dX2_overdrawn_3 ?_
  exact j_sub [2, 1, 0] rfl (k_X2_overdrawn_4 h hV hnL hE fuel _ _ hF)
theorem c_X2_overdrawn (l : Launch) (D : va_G) (cI cZ cV : ClassId) {B : VS → va_W} {ad : Nat → Nat} (hV : IsVill cI B ad) (S : VS) {r : Int32} (hF : f_X2_overdrawn S = some r) : CTi l D (jtys cI cZ cV) yX2_overdrawn cX2_overdrawn 3 (some .int) rmX2_overdrawn B [.ref (ad 23)] S r S := by
  refine CTi.of [(0, .ref (ad 23))] rfl (Nat.le_of_ble_eq_true rfl) (by decide) ⟨rfl, rfl⟩ (fun X e1 e2 e3 e4 e5 e6 e7 h hE => ?_)
  subst e1; subst e2; subst e3; subst e4; subst e5; subst e6
  exact k_X2_overdrawn h hV e7 hE hF
abbrev rmX2_sizeOf : Room := { frames := 0, cells := 0, slots := 0, locals := 0 }
theorem cw_X2_sizeOf : CWv RX2 yX2_sizeOf cX2_sizeOf 4 (some .int) 1 := ⟨q3_55, q3_56, q1_3, q3_57, ⟨rfl, by decide +kernel, by decide +kernel, by decide +kernel⟩⟩
set_option maxHeartbeats 4000000 in
set_option maxRecDepth 100000 in
theorem k_X2_sizeOf_28 {X : JX VS} {ad : Nat → Nat} (h : OK X RX2 cX2_sizeOf rmX2_sizeOf) (hV : IsVill X.cI X.B ad) (hnL : X.nL = 4) {res : Int32} {S : VS} {x1 : Int32} {x3 : Int32} {s0 : Int32} {s1 : Int32} {K4 : Int32 → Int32 → Option (Int32)} (hK4 : ∀ (x2 : Int32) (x3 : Int32), K4 x2 x3 = some res → J X 4 [(0, .ref (ad 23)), (1, .int x1), (2, .int x2), (3, .int x3)] [] S) (hE : EXi X cX2_sizeOf res S) (hF : f_X2_sizeOf_28 K4 S x1 x3 s0 s1 = some res) : J X 28 [(0, .ref (ad 23)), (1, .int x1), (3, .int x3)] [.int s0, .int s1] S := by
  rw [f_X2_sizeOf_28] at hF
  refine j_iadd h dX2_sizeOf_28 ?_
  refine j_let hF (fun x_2 hF => ?_)
  refine j_istore_n h hnL [(2, .int x_2), (0, .ref (ad 23)), (1, .int x1), (3, .int x3)] rfl (by decide) rfl dX2_sizeOf_29 ?_
  refine j_iincL hF (fun x_3 ex_3 hF => ?_)
  refine j_iinc h hnL 3 [(3, .int x_3), (2, .int x_2), (0, .ref (ad 23)), (1, .int x1)] rfl ex_3 (by decide) (by decide) rfl dX2_sizeOf_30 ?_
  refine j_goto h 4 (by decide) dX2_sizeOf_33 ?_
  exact j_sub [2, 3, 1, 0] rfl (hK4 _ _ hF)
set_option maxHeartbeats 4000000 in
set_option maxRecDepth 100000 in
theorem k_X2_sizeOf_4 {X : JX VS} {ad : Nat → Nat} (h : OK X RX2 cX2_sizeOf rmX2_sizeOf) (hV : IsVill X.cI X.B ad) (hnL : X.nL = 4) {res : Int32} {S : VS} {x1 : Int32} (hE : EXi X cX2_sizeOf res S) : ∀ (n : Nat) (x2 : Int32) (x3 : Int32), f_X2_sizeOf_4 S x1 n x2 x3 = some res → J X 4 [(0, .ref (ad 23)), (1, .int x1), (2, .int x2), (3, .int x3)] [] S := by
  intro n
  induction n with
  | zero =>
    intro x2 x3 hF
    rw [f_X2_sizeOf_4] at hF
    cases hF
  | succ n ih =>
    intro x2 x3 hF
    rw [f_X2_sizeOf_4] at hF
    refine j_iload_n h 3 rfl rfl dX2_sizeOf_4 ?_
    refine j_aload_n h 0 rfl rfl dX2_sizeOf_5 ?_
    refine j_get h hV.2.1.o inX2 rfl 0 (by decide) rfl q1_30 rfl dX2_sizeOf_6 ?_
    refine j_icmp_ge h 36 (by decide) dX2_sizeOf_9 hF (fun hF => ?_) (fun hF => ?_)
    · refine j_iload_n h 2 rfl rfl dX2_sizeOf_36 ?_
      cases hF
      exact hE _ _ dX2_sizeOf_37
    · refine j_iload_n h 2 rfl rfl dX2_sizeOf_12 ?_
      refine j_aload_n h 0 rfl rfl dX2_sizeOf_13 ?_
      refine j_get h hV.2.1.o inX2 rfl 1 (by decide) rfl q1_33 rfl dX2_sizeOf_14 ?_
      refine j_iload_n h 3 rfl rfl dX2_sizeOf_17 ?_
      obtain ⟨hb_1, hF⟩ := bnd_row hF
      refine ja_iald h (get := fun v => v) (put := fun _ v => v) (hV.1 0 (by decide)) hb_1 dX2_sizeOf_18 ?_
      refine j_iload_n h 1 rfl rfl dX2_sizeOf_19 ?_
      refine j_icmp_ne h 27 (by decide) dX2_sizeOf_20 hF (fun hF => ?_) (fun hF => ?_)
      · refine j_iconst h (v := 1) (by decide) dX2_sizeOf_23 ?_
        refine j_goto h 28 (by decide) dX2_sizeOf_24 ?_
        exact j_sub [0, 1, 3] rfl (k_X2_sizeOf_28 h hV hnL ih hE hF)
      · refine j_iconst h (v := 0) (by decide) dX2_sizeOf_27 ?_
        exact j_sub [0, 1, 3] rfl (k_X2_sizeOf_28 h hV hnL ih hE hF)
set_option maxHeartbeats 4000000 in
set_option maxRecDepth 100000 in
theorem k_X2_sizeOf {X : JX VS} {ad : Nat → Nat} (h : OK X RX2 cX2_sizeOf rmX2_sizeOf) (hV : IsVill X.cI X.B ad) (hnL : X.nL = 4) {res : Int32} {S : VS} {p1 : Int32} (hE : EXi X cX2_sizeOf res S) (hF : f_X2_sizeOf S p1 = some res) : J X 0 [(0, .ref (ad 23)), (1, .int p1)] [] S := by
  rw [f_X2_sizeOf] at hF
  refine j_iconst h (v := 0) (by decide) dX2_sizeOf_0 ?_
  refine j_istore_n h hnL [(2, .int (0 : Int32)), (0, .ref (ad 23)), (1, .int p1)] rfl (by decide) rfl dX2_sizeOf_1 ?_
  refine j_iconst h (v := 0) (by decide) dX2_sizeOf_2 ?_
  refine j_istore_n h hnL [(3, .int (0 : Int32)), (2, .int (0 : Int32)), (0, .ref (ad 23)), (1, .int p1)] rfl (by decide) rfl dX2_sizeOf_3 ?_
  exact j_sub [2, 3, 1, 0] rfl (k_X2_sizeOf_4 h hV hnL hE fuel _ _ hF)
theorem c_X2_sizeOf (l : Launch) (D : va_G) (cI cZ cV : ClassId) {B : VS → va_W} {ad : Nat → Nat} (hV : IsVill cI B ad) (S : VS) (p1 : Int32) {r : Int32} (hF : f_X2_sizeOf S p1 = some r) : CTi l D (jtys cI cZ cV) yX2_sizeOf cX2_sizeOf 4 (some .int) rmX2_sizeOf B [.ref (ad 23), .int p1] S r S := by
  refine CTi.of [(0, .ref (ad 23)), (1, .int p1)] rfl (Nat.le_of_ble_eq_true rfl) (by decide) ⟨rfl, rfl⟩ (fun X e1 e2 e3 e4 e5 e6 e7 h hE => ?_)
  subst e1; subst e2; subst e3; subst e4; subst e5; subst e6
  exact k_X2_sizeOf h hV e7 hE hF
abbrev rmX2_drawnFrom : Room := { frames := 2, cells := 0, slots := 0, locals := 43 }
theorem cw_X2_drawnFrom : CWv RX2 yX2_drawnFrom cX2_drawnFrom 5 (some .int) 2 := ⟨q3_59, q3_60, q1_3, q3_61, ⟨rfl, by decide +kernel, by decide +kernel, by decide +kernel⟩⟩
set_option maxHeartbeats 4000000 in
set_option maxRecDepth 100000 in
theorem k_X2_drawnFrom_37 {X : JX VS} {ad : Nat → Nat} (h : OK X RX2 cX2_drawnFrom rmX2_drawnFrom) (hV : IsVill X.cI X.B ad) (hnL : X.nL = 5) {res : Int32} {S : VS} {x1 : Int32} {x2 : Int32} {x4 : Int32} {s0 : Int32} {s1 : Int32} {K5 : Int32 → Int32 → Option (Int32)} (hK5 : ∀ (x3 : Int32) (x4 : Int32), K5 x3 x4 = some res → J X 5 [(0, .ref (ad 23)), (1, .int x1), (2, .int x2), (3, .int x3), (4, .int x4)] [] S) (hE : EXi X cX2_drawnFrom res S) (hF : f_X2_drawnFrom_37 K5 S x1 x2 x4 s0 s1 = some res) : J X 37 [(0, .ref (ad 23)), (1, .int x1), (2, .int x2), (4, .int x4)] [.int s0, .int s1] S := by
  rw [f_X2_drawnFrom_37] at hF
  refine j_iadd h dX2_drawnFrom_37 ?_
  refine j_let hF (fun x_3 hF => ?_)
  refine j_istore_n h hnL [(3, .int x_3), (0, .ref (ad 23)), (1, .int x1), (2, .int x2), (4, .int x4)] rfl (by decide) rfl dX2_drawnFrom_38 ?_
  refine j_iincL hF (fun x_4 ex_4 hF => ?_)
  refine j_iinc h hnL 4 [(4, .int x_4), (3, .int x_3), (0, .ref (ad 23)), (1, .int x1), (2, .int x2)] rfl ex_4 (by decide) (by decide) rfl dX2_drawnFrom_39 ?_
  refine j_goto h 5 (by decide) dX2_drawnFrom_42 ?_
  exact j_sub [2, 3, 4, 1, 0] rfl (hK5 _ _ hF)
set_option maxHeartbeats 4000000 in
set_option maxRecDepth 100000 in
theorem k_X2_drawnFrom_5 {X : JX VS} {ad : Nat → Nat} (h : OK X RX2 cX2_drawnFrom rmX2_drawnFrom) (hV : IsVill X.cI X.B ad) (hnL : X.nL = 5) {res : Int32} {S : VS} {x1 : Int32} {x2 : Int32} (hE : EXi X cX2_drawnFrom res S) : ∀ (n : Nat) (x3 : Int32) (x4 : Int32), f_X2_drawnFrom_5 S x1 x2 n x3 x4 = some res → J X 5 [(0, .ref (ad 23)), (1, .int x1), (2, .int x2), (3, .int x3), (4, .int x4)] [] S := by
  intro n
  induction n with
  | zero =>
    intro x3 x4 hF
    rw [f_X2_drawnFrom_5] at hF
    cases hF
  | succ n ih =>
    intro x3 x4 hF
    rw [f_X2_drawnFrom_5] at hF
    refine j_iload h 4 rfl dX2_drawnFrom_5 ?_
    refine j_aload_n h 0 rfl rfl dX2_drawnFrom_7 ?_
    refine j_get h hV.2.1.o inX2 rfl 0 (by decide) rfl q1_30 rfl dX2_drawnFrom_8 ?_
    refine j_icmp_ge h 45 (by decide) dX2_drawnFrom_11 hF (fun hF => ?_) (fun hF => ?_)
    · refine j_iload_n h 3 rfl rfl dX2_drawnFrom_45 ?_
      cases hF
      exact hE _ _ dX2_drawnFrom_46
    · refine j_iload_n h 3 rfl rfl dX2_drawnFrom_14 ?_
      refine j_aload_n h 0 rfl rfl dX2_drawnFrom_15 ?_
      refine j_get h hV.2.1.o inX2 rfl 1 (by decide) rfl q1_33 rfl dX2_drawnFrom_16 ?_
      refine j_iload h 4 rfl dX2_drawnFrom_19 ?_
      obtain ⟨hb_1, hF⟩ := bnd_row hF
      refine ja_iald h (get := fun v => v) (put := fun _ v => v) (hV.1 0 (by decide)) hb_1 dX2_drawnFrom_21 ?_
      refine j_iload_n h 1 rfl rfl dX2_drawnFrom_22 ?_
      refine j_icmp_ne h 36 (by decide) dX2_drawnFrom_23 hF (fun hF => ?_) (fun hF => ?_)
      · refine j_aload_n h 0 rfl rfl dX2_drawnFrom_26 ?_
        refine j_iload h 4 rfl dX2_drawnFrom_27 ?_
        refine j_iload_n h 2 rfl rfl dX2_drawnFrom_29 ?_
        obtain ⟨r_2, hr_2, hF⟩ := bind_row hF
        refine j_callVi h (st := [.int x3]) (S' := S) (c_X2_canDraw X.l X.D X.cI X.cZ X.cV hV S x4 x2 hr_2) rfl rfl q2_207 cw_X2_canDraw hV.2.1.o rfl rfl rfl ⟨rfl, rfl, Nat.le_of_ble_eq_true rfl, Nat.le_of_ble_eq_true rfl⟩ _ rfl (Nat.le_of_ble_eq_true rfl) dX2_drawnFrom_30 ?_
        refine j_goto h 37 (by decide) dX2_drawnFrom_33 ?_
        exact j_sub [0, 1, 2, 4] rfl (k_X2_drawnFrom_37 h hV hnL ih hE hF)
      · refine j_iconst h (v := 0) (by decide) dX2_drawnFrom_36 ?_
        exact j_sub [0, 1, 2, 4] rfl (k_X2_drawnFrom_37 h hV hnL ih hE hF)
set_option maxHeartbeats 4000000 in
set_option maxRecDepth 100000 in
theorem k_X2_drawnFrom {X : JX VS} {ad : Nat → Nat} (h : OK X RX2 cX2_drawnFrom rmX2_drawnFrom) (hV : IsVill X.cI X.B ad) (hnL : X.nL = 5) {res : Int32} {S : VS} {p1 : Int32} {p2 : Int32} (hE : EXi X cX2_drawnFrom res S) (hF : f_X2_drawnFrom S p1 p2 = some res) : J X 0 [(0, .ref (ad 23)), (1, .int p1), (2, .int p2)] [] S := by
  rw [f_X2_drawnFrom] at hF
  refine j_iconst h (v := 0) (by decide) dX2_drawnFrom_0 ?_
  refine j_istore_n h hnL [(3, .int (0 : Int32)), (0, .ref (ad 23)), (1, .int p1), (2, .int p2)] rfl (by decide) rfl dX2_drawnFrom_1 ?_
  refine j_iconst h (v := 0) (by decide) dX2_drawnFrom_2 ?_
  refine j_istore h hnL [(4, .int (0 : Int32)), (3, .int (0 : Int32)), (0, .ref (ad 23)), (1, .int p1), (2, .int p2)] (by decide) rfl dX2_drawnFrom_3 ?_
  exact j_sub [2, 3, 4, 1, 0] rfl (k_X2_drawnFrom_5 h hV hnL hE fuel _ _ hF)
theorem c_X2_drawnFrom (l : Launch) (D : va_G) (cI cZ cV : ClassId) {B : VS → va_W} {ad : Nat → Nat} (hV : IsVill cI B ad) (S : VS) (p1 : Int32) (p2 : Int32) {r : Int32} (hF : f_X2_drawnFrom S p1 p2 = some r) : CTi l D (jtys cI cZ cV) yX2_drawnFrom cX2_drawnFrom 5 (some .int) rmX2_drawnFrom B [.ref (ad 23), .int p1, .int p2] S r S := by
  refine CTi.of [(0, .ref (ad 23)), (1, .int p1), (2, .int p2)] rfl (Nat.le_of_ble_eq_true rfl) (by decide) ⟨rfl, rfl⟩ (fun X e1 e2 e3 e4 e5 e6 e7 h hE => ?_)
  subst e1; subst e2; subst e3; subst e4; subst e5; subst e6
  exact k_X2_drawnFrom h hV e7 hE hF
