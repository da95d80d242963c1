abbrev rmX5_takeList : Room := { frames := 1, cells := 0, slots := 0, locals := 26 }
theorem cw_X5_takeList : CWv RX5 yX5_takeList cX5_takeList 3 none 2 := ⟨q2_32, q2_33, q1_2, q2_34, ⟨rfl, by decide +kernel, by decide +kernel, by decide +kernel⟩⟩
set_option maxHeartbeats 4000000 in
set_option maxRecDepth 100000 in
theorem k_X5_takeList {X : JX PS} {AD : Nat → Nat → Nat} {i : Nat} {j : Nat} {k : Nat} (h : OK X RX5 cX5_takeList rmX5_takeList) (hP : IsPool X.cI X.cZ X.cV X.B AD) (hi : i < 12) (hs : vA X.cI X.B (AD j k) 48 (fun S => S.1 j k)) (hnL : X.nL = 3) {res : PS} {S : PS} {p2 : Int32} (hE : EXv X cX5_takeList res) (hF : f_X5_takeList i j k S p2 = some res) : J X 0 [(0, .ref (AD i 22)), (1, .ref (AD j k)), (2, .int p2)] [] S := by
  rw [f_X5_takeList] at hF
  refine j_aload_n h 1 rfl rfl dX5_takeList_0 ?_
  refine j_iconst h (v := 0) (by decide) dX5_takeList_1 ?_
  refine j_aload_n h 0 rfl rfl dX5_takeList_2 ?_
  refine j_get h (hP.1 i hi).2.2.2.2.1.o inX5 rfl 7 (by decide) rfl q1_131 rfl dX5_takeList_3 ?_
  refine j_iconst h (v := 0) (by decide) dX5_takeList_6 ?_
  refine j_bipush h (v := 48) (by decide) dX5_takeList_7 ?_
  refine j_copy h 0 0 48 hs ((hP.1 i hi).1 21 (by decide)) rfl rfl rfl (by decide) (by decide) (by decide) (by decide) (by decide) q2_30 ⟨Nat.le_of_ble_eq_true rfl, Nat.le_of_ble_eq_true rfl⟩ dX5_takeList_9 ?_
  refine j_letS hF (fun S_1 hF => ?_)
  refine j_aload_n h 0 rfl rfl dX5_takeList_12 ?_
  refine j_iload_n h 2 rfl rfl dX5_takeList_13 ?_
  refine j_put h ((hP.1 i hi).2.2.2.2.1) inX5 tyX5_ok nmX5 rfl (by decide) rfl q1_132 (Nat.le_of_ble_eq_true rfl) dX5_takeList_14 ?_
  refine j_letS hF (fun S_2 hF => ?_)
  cases hF
  exact hE _ _ dX5_takeList_17
theorem c_X5_takeList (l : Launch) (D : va_G) (cI cZ cV : ClassId) {B : PS → va_W} {AD : Nat → Nat → Nat} (hP : IsPool cI cZ cV B AD) {i : Nat} {j : Nat} {k : Nat} (hi : i < 12) (hs : vA cI B (AD j k) 48 (fun S => S.1 j k)) (S : PS) (p2 : Int32) {r : PS} (hF : f_X5_takeList i j k S p2 = some r) : CTv l D (jtys cI cZ cV) yX5_takeList cX5_takeList 3 none rmX5_takeList B [.ref (AD i 22), .ref (AD j k), .int p2] S r := by
  refine CTv.of [(0, .ref (AD i 22)), (1, .ref (AD j k)), (2, .int p2)] rfl (Nat.le_of_ble_eq_true rfl) (by decide) ⟨rfl, rfl⟩ (fun X e1 e2 e3 e4 e5 e6 e7 h hE => ?_)
  subst e1; subst e2; subst e3; subst e4; subst e5; subst e6
  exact k_X5_takeList h hP hi hs e7 hE hF
abbrev rmX5_copy : Room := { frames := 2, cells := 0, slots := 0, locals := 48 }
theorem cw_X5_copy : CWv RX5 yX5_copy cX5_copy 2 none 1 := ⟨q2_10, q2_11, q1_2, q2_12, ⟨rfl, by decide +kernel, by decide +kernel, by decide +kernel⟩⟩
set_option maxHeartbeats 4000000 in
set_option maxRecDepth 100000 in
theorem k_X5_copy {X : JX PS} {AD : Nat → Nat → Nat} {i : Nat} {j : Nat} (h : OK X RX5 cX5_copy rmX5_copy) (hP : IsPool X.cI X.cZ X.cV X.B AD) (hi : i < 12) (hj : j < 12) (hnL : X.nL = 2) {res : PS} {S : PS} (hE : EXv X cX5_copy res) (hF : f_X5_copy i j S = some res) : J X 0 [(0, .ref (AD i 22)), (1, .ref (AD j 22))] [] S := by
  rw [f_X5_copy] at hF
  refine j_aload_n h 0 rfl rfl dX5_copy_0 ?_
  refine j_get h (hP.1 i hi).2.2.2.2.1.o inX5 rfl 0 (by decide) rfl q1_117 rfl dX5_copy_1 ?_
  refine j_aload_n h 1 rfl rfl dX5_copy_4 ?_
  refine j_get h (hP.1 j hj).2.2.2.2.1.o inX5 rfl 0 (by decide) rfl q1_117 rfl dX5_copy_5 ?_
  obtain ⟨r_1, hr_1, hF⟩ := bind_row hF
  refine j_callVv h (st := []) (S' := r_1) (c_X2_copy X.l X.D X.cI X.cZ X.cV hP hi hj S hr_1) rfl rfl q2_13 cw_X2_copy (hP.1 i hi).2.1.o rfl rfl rfl ⟨rfl, rfl, Nat.le_of_ble_eq_true rfl, Nat.le_of_ble_eq_true rfl⟩ _ rfl (Nat.le_of_ble_eq_true rfl) dX5_copy_8 ?_
  refine j_aload_n h 0 rfl rfl dX5_copy_11 ?_
  refine j_get h (hP.1 i hi).2.2.2.2.1.o inX5 rfl 1 (by decide) rfl q1_119 rfl dX5_copy_12 ?_
  refine j_aload_n h 1 rfl rfl dX5_copy_15 ?_
  refine j_get h (hP.1 j hj).2.2.2.2.1.o inX5 rfl 1 (by decide) rfl q1_119 rfl dX5_copy_16 ?_
  obtain ⟨r_2, hr_2, hF⟩ := bind_row hF
  refine j_callVv h (st := []) (S' := r_2) (c_X4_copy X.l X.D X.cI X.cZ X.cV hP hi hj r_1 hr_2) rfl rfl q2_20 cw_X4_copy (hP.1 i hi).2.2.1.o rfl rfl rfl ⟨rfl, rfl, Nat.le_of_ble_eq_true rfl, Nat.le_of_ble_eq_true rfl⟩ _ rfl (Nat.le_of_ble_eq_true rfl) dX5_copy_19 ?_
  refine j_aload_n h 0 rfl rfl dX5_copy_22 ?_
  refine j_get h (hP.1 i hi).2.2.2.2.1.o inX5 rfl 2 (by decide) rfl q1_121 rfl dX5_copy_23 ?_
  refine j_aload_n h 1 rfl rfl dX5_copy_26 ?_
  refine j_get h (hP.1 j hj).2.2.2.2.1.o inX5 rfl 2 (by decide) rfl q1_121 rfl dX5_copy_27 ?_
  obtain ⟨r_3, hr_3, hF⟩ := bind_row hF
  refine j_callVv h (st := []) (S' := r_3) (c_X0_copy X.l X.D X.cI X.cZ X.cV hP hi hj r_2 hr_3) rfl rfl q2_25 cw_X0_copy (hP.1 i hi).2.2.2.1 rfl rfl rfl ⟨rfl, rfl, Nat.le_of_ble_eq_true rfl, Nat.le_of_ble_eq_true rfl⟩ _ rfl (Nat.le_of_ble_eq_true rfl) dX5_copy_30 ?_
  refine j_aload_n h 1 rfl rfl dX5_copy_33 ?_
  refine j_get h (hP.1 j hj).2.2.2.2.1.o inX5 rfl 3 (by decide) rfl q1_123 rfl dX5_copy_34 ?_
  refine j_iconst h (v := 0) (by decide) dX5_copy_37 ?_
  refine j_aload_n h 0 rfl rfl dX5_copy_38 ?_
  refine j_get h (hP.1 i hi).2.2.2.2.1.o inX5 rfl 3 (by decide) rfl q1_123 rfl dX5_copy_39 ?_
  refine j_iconst h (v := 0) (by decide) dX5_copy_42 ?_
  refine j_iconst h (v := 4) (by decide) dX5_copy_43 ?_
  refine j_copy h 0 0 4 ((hP.1 j hj).1 17 (by decide)).a ((hP.1 i hi).1 17 (by decide)) rfl rfl rfl (by decide) (by decide) (by decide) (by decide) (by decide) q2_30 ⟨Nat.le_of_ble_eq_true rfl, Nat.le_of_ble_eq_true rfl⟩ dX5_copy_44 ?_
  refine j_letS hF (fun S_4 hF => ?_)
  refine j_aload_n h 1 rfl rfl dX5_copy_47 ?_
  refine j_get h (hP.1 j hj).2.2.2.2.1.o inX5 rfl 4 (by decide) rfl q1_125 rfl dX5_copy_48 ?_
  refine j_iconst h (v := 0) (by decide) dX5_copy_51 ?_
  refine j_aload_n h 0 rfl rfl dX5_copy_52 ?_
  refine j_get h (hP.1 i hi).2.2.2.2.1.o inX5 rfl 4 (by decide) rfl q1_125 rfl dX5_copy_53 ?_
  refine j_iconst h (v := 0) (by decide) dX5_copy_56 ?_
  refine j_bipush h (v := 8) (by decide) dX5_copy_57 ?_
  refine j_copy h 0 0 8 ((hP.1 j hj).1 18 (by decide)).a ((hP.1 i hi).1 18 (by decide)) rfl rfl rfl (by decide) (by decide) (by decide) (by decide) (by decide) q2_30 ⟨Nat.le_of_ble_eq_true rfl, Nat.le_of_ble_eq_true rfl⟩ dX5_copy_59 ?_
  refine j_letS hF (fun S_5 hF => ?_)
  refine j_aload_n h 1 rfl rfl dX5_copy_62 ?_
  refine j_get h (hP.1 j hj).2.2.2.2.1.o inX5 rfl 5 (by decide) rfl q1_127 rfl dX5_copy_63 ?_
  refine j_iconst h (v := 0) (by decide) dX5_copy_66 ?_
  refine j_aload_n h 0 rfl rfl dX5_copy_67 ?_
  refine j_get h (hP.1 i hi).2.2.2.2.1.o inX5 rfl 5 (by decide) rfl q1_127 rfl dX5_copy_68 ?_
  refine j_iconst h (v := 0) (by decide) dX5_copy_71 ?_
  refine j_iconst h (v := 3) (by decide) dX5_copy_72 ?_
  refine j_copy h 0 0 3 ((hP.1 j hj).1 19 (by decide)).a ((hP.1 i hi).1 19 (by decide)) rfl rfl rfl (by decide) (by decide) (by decide) (by decide) (by decide) q2_30 ⟨Nat.le_of_ble_eq_true rfl, Nat.le_of_ble_eq_true rfl⟩ dX5_copy_73 ?_
  refine j_letS hF (fun S_6 hF => ?_)
  refine j_aload_n h 1 rfl rfl dX5_copy_76 ?_
  refine j_get h (hP.1 j hj).2.2.2.2.1.o inX5 rfl 6 (by decide) rfl q1_129 rfl dX5_copy_77 ?_
  refine j_iconst h (v := 0) (by decide) dX5_copy_80 ?_
  refine j_aload_n h 0 rfl rfl dX5_copy_81 ?_
  refine j_get h (hP.1 i hi).2.2.2.2.1.o inX5 rfl 6 (by decide) rfl q1_129 rfl dX5_copy_82 ?_
  refine j_iconst h (v := 0) (by decide) dX5_copy_85 ?_
  refine j_iconst h (v := 3) (by decide) dX5_copy_86 ?_
  refine j_copy h 0 0 3 ((hP.1 j hj).1 20 (by decide)).a ((hP.1 i hi).1 20 (by decide)) rfl rfl rfl (by decide) (by decide) (by decide) (by decide) (by decide) q2_30 ⟨Nat.le_of_ble_eq_true rfl, Nat.le_of_ble_eq_true rfl⟩ dX5_copy_87 ?_
  refine j_letS hF (fun S_7 hF => ?_)
  refine j_aload_n h 0 rfl rfl dX5_copy_90 ?_
  refine j_aload_n h 1 rfl rfl dX5_copy_91 ?_
  refine j_get h (hP.1 j hj).2.2.2.2.1.o inX5 rfl 7 (by decide) rfl q1_131 rfl dX5_copy_92 ?_
  refine j_aload_n h 1 rfl rfl dX5_copy_95 ?_
  refine j_get h (hP.1 j hj).2.2.2.2.1.o inX5 rfl 8 (by decide) rfl q1_132 rfl dX5_copy_96 ?_
  obtain ⟨r_8, hr_8, hF⟩ := bind_row hF
  refine j_callVv h (st := []) (S' := r_8) (c_X5_takeList X.l X.D X.cI X.cZ X.cV hP hi ((hP.1 j hj).1 21 (by decide)).a S_7 ((S_7.1 j) 22 2) hr_8) rfl rfl q2_31 cw_X5_takeList (hP.1 i hi).2.2.2.2.1.o rfl rfl rfl ⟨rfl, rfl, Nat.le_of_ble_eq_true rfl, Nat.le_of_ble_eq_true rfl⟩ _ rfl (Nat.le_of_ble_eq_true rfl) dX5_copy_99 ?_
  refine j_aload_n h 0 rfl rfl dX5_copy_102 ?_
  refine j_aload_n h 1 rfl rfl dX5_copy_103 ?_
  refine j_get h (hP.1 j hj).2.2.2.2.1.o inX5 rfl 9 (by decide) rfl q1_134 rfl dX5_copy_104 ?_
  refine j_put h ((hP.1 i hi).2.2.2.2.2.1) inX5 tyX5_ok nmX5 rfl (by decide) rfl q1_134 (Nat.le_of_ble_eq_true rfl) dX5_copy_107 ?_
  refine j_letS hF (fun S_9 hF => ?_)
  refine j_aload_n h 0 rfl rfl dX5_copy_110 ?_
  refine j_aload_n h 1 rfl rfl dX5_copy_111 ?_
  refine j_get h (hP.1 j hj).2.2.2.2.1.o inX5 rfl 10 (by decide) rfl q1_136 rfl dX5_copy_112 ?_
  refine j_put h ((hP.1 i hi).2.2.2.2.2.2) inX5 tyX5_ok nmX5 rfl (by decide) rfl q1_136 (Nat.le_of_ble_eq_true rfl) dX5_copy_115 ?_
  refine j_letS hF (fun S_10 hF => ?_)
  cases hF
  exact hE _ _ dX5_copy_118
theorem c_X5_copy (l : Launch) (D : va_G) (cI cZ cV : ClassId) {B : PS → va_W} {AD : Nat → Nat → Nat} (hP : IsPool cI cZ cV B AD) {i : Nat} {j : Nat} (hi : i < 12) (hj : j < 12) (S : PS) {r : PS} (hF : f_X5_copy i j S = some r) : CTv l D (jtys cI cZ cV) yX5_copy cX5_copy 2 none rmX5_copy B [.ref (AD i 22), .ref (AD j 22)] S r := by
  refine CTv.of [(0, .ref (AD i 22)), (1, .ref (AD j 22))] rfl (Nat.le_of_ble_eq_true rfl) (by decide) ⟨rfl, rfl⟩ (fun X e1 e2 e3 e4 e5 e6 e7 h hE => ?_)
  subst e1; subst e2; subst e3; subst e4; subst e5; subst e6
  exact k_X5_copy h hP hi hj e7 hE hF
abbrev rmX5_supplyOf : Room := { frames := 1, cells := 0, slots := 0, locals := 22 }
theorem cw_X5_supplyOf : CWv RX5 yX5_supplyOf cX5_supplyOf 2 (some .int) 1 := ⟨q2_193, q2_194, q1_2, q2_195, ⟨rfl, by decide +kernel, by decide +kernel, by decide +kernel⟩⟩
set_option maxHeartbeats 4000000 in
set_option maxRecDepth 100000 in
theorem k_X5_supplyOf {X : JX VS} {ad : Nat → Nat} (h : OK X RX5 cX5_supplyOf rmX5_supplyOf) (hV : IsVill X.cI X.B ad) (hnL : X.nL = 2) {res : Int32} {S : VS} {p1 : Int32} (hE : EXi X cX5_supplyOf res S) (hF : f_X5_supplyOf S p1 = some res) : J X 0 [(0, .ref (ad 22)), (1, .int p1)] [] S := by
  rw [f_X5_supplyOf] at hF
  refine j_aload_n h 0 rfl rfl dX5_supplyOf_0 ?_
  refine j_get h hV.2.2.2.2.1.o inX5 rfl 8 (by decide) rfl q1_132 rfl dX5_supplyOf_1 ?_
  refine j_if_le h 23 (by decide) dX5_supplyOf_4 hF (fun hF => ?_) (fun hF => ?_)
  · refine j_iconst h (v := 0) (by decide) dX5_supplyOf_23 ?_
    cases hF
    exact hE _ _ dX5_supplyOf_24
  · refine j_aload_n h 0 rfl rfl dX5_supplyOf_7 ?_
    refine j_get h hV.2.2.2.2.1.o inX5 rfl 7 (by decide) rfl q1_131 rfl dX5_supplyOf_8 ?_
    refine j_iload_n h 1 rfl rfl dX5_supplyOf_11 ?_
    refine j_aload_n h 0 rfl rfl dX5_supplyOf_12 ?_
    refine j_get h hV.2.2.2.2.1.o inX5 rfl 8 (by decide) rfl q1_132 rfl dX5_supplyOf_13 ?_
    obtain ⟨r_1, hr_1, hF⟩ := bind_row hF
    refine j_callSi h (st := [.ref (ad 21)]) (S' := S) (c_J9_floorMod_7cf53 X.l X.D X.cI X.cZ X.cV (B := X.B) S p1 (S 22 2) hr_1) rfl rfl q2_196 cw_J9_floorMod_7cf53 rfl ⟨rfl, rfl, Nat.le_of_ble_eq_true rfl, Nat.le_of_ble_eq_true rfl⟩ _ rfl (Nat.le_of_ble_eq_true rfl) dX5_supplyOf_16 ?_
    obtain ⟨hb_2, hF⟩ := bnd_row hF
    refine ja_iald h (get := fun v => v) (put := fun _ v => v) (hV.1 21 (by decide)) hb_2 dX5_supplyOf_19 ?_
    refine j_goto h 24 (by decide) dX5_supplyOf_20 ?_
    cases hF
    exact hE _ _ dX5_supplyOf_24
theorem c_X5_supplyOf (l : Launch) (D : va_G) (cI cZ cV : ClassId) {B : VS → va_W} {ad : Nat → Nat} (hV : IsVill cI B ad) (S : VS) (p1 : Int32) {r : Int32} (hF : f_X5_supplyOf S p1 = some r) : CTi l D (jtys cI cZ cV) yX5_supplyOf cX5_supplyOf 2 (some .int) rmX5_supplyOf B [.ref (ad 22), .int p1] S r S := by
  refine CTi.of [(0, .ref (ad 22)), (1, .int p1)] rfl (Nat.le_of_ble_eq_true rfl) (by decide) ⟨rfl, rfl⟩ (fun X e1 e2 e3 e4 e5 e6 e7 h hE => ?_)
  subst e1; subst e2; subst e3; subst e4; subst e5; subst e6
  exact k_X5_supplyOf h hV e7 hE hF
abbrev rmX5_partForDebt : Room := { frames := 1, cells := 0, slots := 0, locals := 21 }
theorem cw_X5_partForDebt : CWv RX5 yX5_partForDebt cX5_partForDebt 3 (some .int) 2 := ⟨q2_123, q2_124, q1_2, q2_125, ⟨rfl, by decide +kernel, by decide +kernel, by decide +kernel⟩⟩
set_option maxHeartbeats 4000000 in
set_option maxRecDepth 100000 in
theorem k_X5_partForDebt {X : JX VS} {ad : Nat → Nat} (h : OK X RX5 cX5_partForDebt rmX5_partForDebt) (hV : IsVill X.cI X.B ad) (hnL : X.nL = 3) {res : Int32} {S : VS} {p1 : Int32} {p2 : Int32} (hE : EXi X cX5_partForDebt res S) (hF : f_X5_partForDebt S p1 p2 = some res) : J X 0 [(0, .ref (ad 22)), (1, .int p1), (2, .int p2)] [] S := by
  rw [f_X5_partForDebt] at hF
  refine j_aload_n h 0 rfl rfl dX5_partForDebt_0 ?_
  refine j_get h hV.2.2.2.2.1.o inX5 rfl 0 (by decide) rfl q1_117 rfl dX5_partForDebt_1 ?_
  refine j_get h hV.2.1.o inX2 rfl 3 (by decide) rfl q1_38 rfl dX5_partForDebt_4 ?_
  refine j_iload_n h 1 rfl rfl dX5_partForDebt_7 ?_
  obtain ⟨hb_1, hF⟩ := bnd_row hF
  refine ja_iald h (get := fun v => v) (put := fun _ v => v) (hV.1 2 (by decide)) hb_1 dX5_partForDebt_8 ?_
  refine j_iload_n h 2 rfl rfl dX5_partForDebt_9 ?_
  refine j_aload_n h 0 rfl rfl dX5_partForDebt_10 ?_
  refine j_get h hV.2.2.2.2.1.o inX5 rfl 3 (by decide) rfl q1_123 rfl dX5_partForDebt_11 ?_
  refine j_iconst h (v := 1) (by decide) dX5_partForDebt_14 ?_
  obtain ⟨hb_2, hF⟩ := bnd_row hF
  refine ja_iald h (get := fun v => v) (put := fun _ v => v) (hV.1 17 (by decide)) hb_2 dX5_partForDebt_15 ?_
  refine j_imul h dX5_partForDebt_16 ?_
  refine j_bipush h (v := 100) (by decide) dX5_partForDebt_17 ?_
  refine j_idiv h (by decide) dX5_partForDebt_19 ?_
  refine j_min h q2_126 ⟨Nat.le_of_ble_eq_true rfl, Nat.le_of_ble_eq_true rfl⟩ dX5_partForDebt_20 ?_
  cases hF
  exact hE _ _ dX5_partForDebt_23
theorem c_X5_partForDebt (l : Launch) (D : va_G) (cI cZ cV : ClassId) {B : VS → va_W} {ad : Nat → Nat} (hV : IsVill cI B ad) (S : VS) (p1 : Int32) (p2 : Int32) {r : Int32} (hF : f_X5_partForDebt S p1 p2 = some r) : CTi l D (jtys cI cZ cV) yX5_partForDebt cX5_partForDebt 3 (some .int) rmX5_partForDebt B [.ref (ad 22), .int p1, .int p2] S r S := by
  refine CTi.of [(0, .ref (ad 22)), (1, .int p1), (2, .int p2)] rfl (Nat.le_of_ble_eq_true rfl) (by decide) ⟨rfl, rfl⟩ (fun X e1 e2 e3 e4 e5 e6 e7 h hE => ?_)
  subst e1; subst e2; subst e3; subst e4; subst e5; subst e6
  exact k_X5_partForDebt h hV e7 hE hF
abbrev rmX5_partForLoans : Room := { frames := 2, cells := 0, slots := 0, locals := 45 }
theorem cw_X5_partForLoans : CWv RX5 yX5_partForLoans cX5_partForLoans 4 (some .int) 2 := ⟨q2_128, q2_129, q1_2, q2_130, ⟨rfl, by decide +kernel, by decide +kernel, by decide +kernel⟩⟩
set_option maxHeartbeats 4000000 in
set_option maxRecDepth 100000 in
theorem k_X5_partForLoans {X : JX VS} {ad : Nat → Nat} (h : OK X RX5 cX5_partForLoans rmX5_partForLoans) (hV : IsVill X.cI X.B ad) (hnL : X.nL = 4) {res : Int32} {S : VS} {p1 : Int32} {p2 : Int32} (hE : EXi X cX5_partForLoans res S) (hF : f_X5_partForLoans S p1 p2 = some res) : J X 0 [(0, .ref (ad 22)), (1, .int p1), (2, .int p2)] [] S := by
  rw [f_X5_partForLoans] at hF
  refine j_iload_n h 2 rfl rfl dX5_partForLoans_0 ?_
  refine j_aload_n h 0 rfl rfl dX5_partForLoans_1 ?_
  refine j_iload_n h 1 rfl rfl dX5_partForLoans_2 ?_
  refine j_iload_n h 2 rfl rfl dX5_partForLoans_3 ?_
  obtain ⟨r_1, hr_1, hF⟩ := bind_row hF
  refine j_callVi h (st := [.int p2]) (S' := S) (c_X5_partForDebt X.l X.D X.cI X.cZ X.cV hV S p1 p2 hr_1) rfl rfl q2_122 cw_X5_partForDebt hV.2.2.2.2.1.o rfl rfl rfl ⟨rfl, rfl, Nat.le_of_ble_eq_true rfl, Nat.le_of_ble_eq_true rfl⟩ _ rfl (Nat.le_of_ble_eq_true rfl) dX5_partForLoans_4 ?_
  refine j_isub h dX5_partForLoans_7 ?_
  refine j_let hF (fun x_2 hF => ?_)
  refine j_istore_n h hnL [(3, .int x_2), (0, .ref (ad 22)), (1, .int p1), (2, .int p2)] rfl (by decide) rfl dX5_partForLoans_8 ?_
  refine j_aload_n h 1 rfl rfl dX5_partForLoans_9 ?_
  refine j_get h hV.2.2.2.2.1.o inX5 rfl 1 (by decide) rfl q1_119 rfl dX5_partForLoans_10 ?_
  refine j_iload_n h 2 rfl rfl dX5_partForLoans_13 ?_
  obtain ⟨r_3, hr_3, hF⟩ := bind_row hF
  refine j_callVi h (st := []) (S' := S) (c_X4_owedBy X.l X.D X.cI X.cZ X.cV hV S p1 hr_3) rfl rfl q2_131 cw_X4_owedBy hV.2.2.1.o rfl rfl rfl ⟨rfl, rfl, Nat.le_of_ble_eq_true rfl, Nat.le_of_ble_eq_true rfl⟩ _ rfl (Nat.le_of_ble_eq_true rfl) dX5_partForLoans_14 ?_
  refine j_iload_n h 0 rfl rfl dX5_partForLoans_17 ?_
  refine j_aload_n h 1 rfl rfl dX5_partForLoans_18 ?_
  refine j_get h hV.2.2.2.2.1.o inX5 rfl 3 (by decide) rfl q1_123 rfl dX5_partForLoans_19 ?_
  refine j_iconst h (v := 2) (by decide) dX5_partForLoans_22 ?_
  obtain ⟨hb_4, hF⟩ := bnd_row hF
  refine ja_iald h (get := fun v => v) (put := fun _ v => v) (hV.1 17 (by decide)) hb_4 dX5_partForLoans_23 ?_
  refine j_imul h dX5_partForLoans_24 ?_
  refine j_bipush h (v := 100) (by decide) dX5_partForLoans_25 ?_
  refine j_idiv h (by decide) dX5_partForLoans_27 ?_
  refine j_min h q2_126 ⟨Nat.le_of_ble_eq_true rfl, Nat.le_of_ble_eq_true rfl⟩ dX5_partForLoans_28 ?_
  cases hF
  exact hE _ _ dX5_partForLoans_31
theorem c_X5_partForLoans (l : Launch) (D : va_G) (cI cZ cV : ClassId) {B : VS → va_W} {ad : Nat → Nat} (hV : IsVill cI B ad) (S : VS) (p1 : Int32) (p2 : Int32) {r : Int32} (hF : f_X5_partForLoans S p1 p2 = some r) : CTi l D (jtys cI cZ cV) yX5_partForLoans cX5_partForLoans 4 (some .int) rmX5_partForLoans B [.ref (ad 22), .int p1, .int p2] S r S := by
  refine CTi.of [(0, .ref (ad 22)), (1, .int p1), (2, .int p2)] rfl (Nat.le_of_ble_eq_true rfl) (by decide) ⟨rfl, rfl⟩ (fun X e1 e2 e3 e4 e5 e6 e7 h hE => ?_)
  subst e1; subst e2; subst e3; subst e4; subst e5; subst e6
  exact k_X5_partForLoans h hV e7 hE hF
abbrev rmX5_payLoans : Room := { frames := 2, cells := 0, slots := 0, locals := 43 }
theorem cw_X5_payLoans : CWv RX5 yX5_payLoans cX5_payLoans 6 none 2 := ⟨q2_141, qs3, q1_2, q2_142, ⟨rfl, by decide +kernel, by decide +kernel, by decide +kernel⟩⟩
set_option maxHeartbeats 4000000 in
set_option maxRecDepth 100000 in
theorem k_X5_payLoans_90 {X : JX VS} {ad : Nat → Nat} (h : OK X RX5 cX5_payLoans rmX5_payLoans) (hV : IsVill X.cI X.B ad) (hnL : X.nL = 6) {res : VS} {S : VS} {x1 : Int32} {x3 : Int32} {x4 : Int32} {K5 : Int32 → Int32 → VS → Option (VS)} (hK5 : ∀ (x3 : Int32) (x4 : Int32) (S : VS), K5 x3 x4 S = some res → J X 5 [(0, .ref (ad 22)), (1, .int x1), (3, .int x3), (4, .int x4)] [] S) (hE : EXv X cX5_payLoans res) (hF : f_X5_payLoans_90 K5 S x1 x3 x4 = some res) : J X 90 [(0, .ref (ad 22)), (1, .int x1), (3, .int x3), (4, .int x4)] [] S := by
  rw [f_X5_payLoans_90] at hF
  refine j_iincL hF (fun x_13 ex_13 hF => ?_)
  refine j_iinc h hnL 3 [(4, .int x_13), (0, .ref (ad 22)), (1, .int x1), (3, .int x3)] rfl ex_13 (by decide) (by decide) rfl dX5_payLoans_90 ?_
  refine j_goto h 5 (by decide) dX5_payLoans_93 ?_
  exact j_sub [1, 2, 3, 0] rfl (hK5 _ _ _ hF)
set_option maxHeartbeats 4000000 in
set_option maxRecDepth 100000 in
theorem k_X5_payLoans_5 {X : JX VS} {ad : Nat → Nat} (h : OK X RX5 cX5_payLoans rmX5_payLoans) (hV : IsVill X.cI X.B ad) (hnL : X.nL = 6) {res : VS} {x1 : Int32} (hE : EXv X cX5_payLoans res) : ∀ (n : Nat) (x3 : Int32) (x4 : Int32) (S : VS), f_X5_payLoans_5 x1 n x3 x4 S = some res → J X 5 [(0, .ref (ad 22)), (1, .int x1), (3, .int x3), (4, .int x4)] [] S := by
  intro n
  induction n with
  | zero =>
    intro x3 x4 S hF
    rw [f_X5_payLoans_5] at hF
    cases hF
  | succ n ih =>
    intro x3 x4 S hF
    rw [f_X5_payLoans_5] at hF
    refine j_iload h 3 rfl dX5_payLoans_5 ?_
    refine j_aload_n h 0 rfl rfl dX5_payLoans_7 ?_
    refine j_get h hV.2.2.2.2.1.o inX5 rfl 1 (by decide) rfl q1_119 rfl dX5_payLoans_8 ?_
    refine j_get h hV.2.2.1.o inX4 rfl 0 (by decide) rfl q1_82 rfl dX5_payLoans_11 ?_
    refine j_icmp_ge h 96 (by decide) dX5_payLoans_14 hF (fun hF => ?_) (fun hF => ?_)
    · refine j_aload_n h 0 rfl rfl dX5_payLoans_96 ?_
      refine j_get h hV.2.2.2.2.1.o inX5 rfl 1 (by decide) rfl q1_119 rfl dX5_payLoans_97 ?_
      obtain ⟨r_1, hr_1, hF⟩ := bind_row hF
      refine j_callVv h (st := []) (S' := r_1) (c_X4_removePaid X.l X.D X.cI X.cZ X.cV hV S hr_1) rfl rfl q2_143 cw_X4_removePaid hV.2.2.1.o rfl rfl rfl ⟨rfl, rfl, Nat.le_of_ble_eq_true rfl, Nat.le_of_ble_eq_true rfl⟩ _ rfl (Nat.le_of_ble_eq_true rfl) dX5_payLoans_100 ?_
      cases hF
      exact hE _ _ dX5_payLoans_103
    · refine j_aload_n h 0 rfl rfl dX5_payLoans_17 ?_
      refine j_get h hV.2.2.2.2.1.o inX5 rfl 1 (by decide) rfl q1_119 rfl dX5_payLoans_18 ?_
      refine j_get h hV.2.2.1.o inX4 rfl 2 (by decide) rfl q1_86 rfl dX5_payLoans_21 ?_
      refine j_iload h 3 rfl dX5_payLoans_24 ?_
      obtain ⟨hb_2, hF⟩ := bnd_row hF
      refine ja_iald h (get := fun v => v) (put := fun _ v => v) (hV.1 11 (by decide)) hb_2 dX5_payLoans_26 ?_
      refine j_iload_n h 1 rfl rfl dX5_payLoans_27 ?_
      refine j_icmp_ne h 90 (by decide) dX5_payLoans_28 hF (fun hF => ?_) (fun hF => ?_)
      · refine j_iload_n h 2 rfl rfl dX5_payLoans_31 ?_
        refine j_aload_n h 0 rfl rfl dX5_payLoans_32 ?_
        refine j_get h hV.2.2.2.2.1.o inX5 rfl 1 (by decide) rfl q1_119 rfl dX5_payLoans_33 ?_
        refine j_get h hV.2.2.1.o inX4 rfl 3 (by decide) rfl q1_88 rfl dX5_payLoans_36 ?_
        refine j_iload h 3 rfl dX5_payLoans_39 ?_
        obtain ⟨hb_3, hF⟩ := bnd_row hF
        refine ja_iald h (get := fun v => v) (put := fun _ v => v) (hV.1 12 (by decide)) hb_3 dX5_payLoans_41 ?_
        refine j_min h q2_126 ⟨Nat.le_of_ble_eq_true rfl, Nat.le_of_ble_eq_true rfl⟩ dX5_payLoans_42 ?_
        refine j_let hF (fun x_4 hF => ?_)
        refine j_istore h hnL [(5, .int x_4), (0, .ref (ad 22)), (1, .int x1), (3, .int x3), (4, .int x4)] (by decide) rfl dX5_payLoans_45 ?_
        refine j_aload_n h 1 rfl rfl dX5_payLoans_47 ?_
        refine j_get h hV.2.2.2.2.1.o inX5 rfl 1 (by decide) rfl q1_119 rfl dX5_payLoans_48 ?_
        refine j_get h hV.2.2.1.o inX4 rfl 3 (by decide) rfl q1_88 rfl dX5_payLoans_51 ?_
        refine j_iload h 4 rfl dX5_payLoans_54 ?_
        refine j_dup2 h rfl rfl dX5_payLoans_56 ?_
        obtain ⟨hb_5, hF⟩ := bnd_row hF
        refine ja_iald h (get := fun v => v) (put := fun _ v => v) (hV.1 12 (by decide)) hb_5 dX5_payLoans_57 ?_
        refine j_iload h 0 rfl dX5_payLoans_58 ?_
        refine j_isub h dX5_payLoans_60 ?_
        obtain ⟨hb_6, hF⟩ := bnd_row hF
        refine ja_iast h (get := fun v => v) (put := fun _ v => v) (hV.1 12 (by decide)) hb_6 dX5_payLoans_61 ?_
        refine j_letS hF (fun S_7 hF => ?_)
        refine j_aload_n h 1 rfl rfl dX5_payLoans_62 ?_
        refine j_get h hV.2.2.2.2.1.o inX5 rfl 0 (by decide) rfl q1_117 rfl dX5_payLoans_63 ?_
        refine j_get h hV.2.1.o inX2 rfl 5 (by decide) rfl q1_42 rfl dX5_payLoans_66 ?_
        refine j_aload_n h 1 rfl rfl dX5_payLoans_69 ?_
        refine j_get h hV.2.2.2.2.1.o inX5 rfl 1 (by decide) rfl q1_119 rfl dX5_payLoans_70 ?_
        refine j_get h hV.2.2.1.o inX4 rfl 1 (by decide) rfl q1_84 rfl dX5_payLoans_73 ?_
        refine j_iload h 4 rfl dX5_payLoans_76 ?_
        obtain ⟨hb_8, hF⟩ := bnd_row hF
        refine ja_iald h (get := fun v => v) (put := fun _ v => v) (hV.1 10 (by decide)) hb_8 dX5_payLoans_78 ?_
        refine j_dup2 h rfl rfl dX5_payLoans_79 ?_
        obtain ⟨hb_9, hF⟩ := bnd_row hF
        refine ja_iald h (get := fun v => v) (put := fun _ v => v) (hV.1 4 (by decide)) hb_9 dX5_payLoans_80 ?_
        refine j_iload h 0 rfl dX5_payLoans_81 ?_
        refine j_iadd h dX5_payLoans_83 ?_
        obtain ⟨hb_10, hF⟩ := bnd_row hF
        refine ja_iast h (get := fun v => v) (put := fun _ v => v) (hV.1 4 (by decide)) hb_10 dX5_payLoans_84 ?_
        refine j_letS hF (fun S_11 hF => ?_)
        refine j_iload_n h 3 rfl rfl dX5_payLoans_85 ?_
        refine j_iload h 0 rfl dX5_payLoans_86 ?_
        refine j_isub h dX5_payLoans_88 ?_
        refine j_let hF (fun x_12 hF => ?_)
        refine j_istore_n h hnL [(3, .int x_12), (5, .int x_4), (0, .ref (ad 22)), (1, .int x1), (4, .int x4)] rfl (by decide) rfl dX5_payLoans_89 ?_
        exact j_sub [2, 3, 0, 4] rfl (k_X5_payLoans_90 h hV hnL ih hE hF)
      · exact j_sub [0, 1, 2, 3] rfl (k_X5_payLoans_90 h hV hnL ih hE hF)
set_option maxHeartbeats 4000000 in
set_option maxRecDepth 100000 in
theorem k_X5_payLoans {X : JX VS} {ad : Nat → Nat} (h : OK X RX5 cX5_payLoans rmX5_payLoans) (hV : IsVill X.cI X.B ad) (hnL : X.nL = 6) {res : VS} {S : VS} {p1 : Int32} {p2 : Int32} (hE : EXv X cX5_payLoans res) (hF : f_X5_payLoans S p1 p2 = some res) : J X 0 [(0, .ref (ad 22)), (1, .int p1), (2, .int p2)] [] S := by
  rw [f_X5_payLoans] at hF
  refine j_iload_n h 2 rfl rfl dX5_payLoans_0 ?_
  refine j_istore_n h hnL [(3, .int p2), (0, .ref (ad 22)), (1, .int p1), (2, .int p2)] rfl (by decide) rfl dX5_payLoans_1 ?_
  refine j_iconst h (v := 0) (by decide) dX5_payLoans_2 ?_
  refine j_istore h hnL [(4, .int (0 : Int32)), (3, .int p2), (0, .ref (ad 22)), (1, .int p1), (2, .int p2)] (by decide) rfl dX5_payLoans_3 ?_
  exact j_sub [2, 3, 1, 0] rfl (k_X5_payLoans_5 h hV hnL hE fuel _ _ _ hF)
theorem c_X5_payLoans (l : Launch) (D : va_G) (cI cZ cV : ClassId) {B : VS → va_W} {ad : Nat → Nat} (hV : IsVill cI B ad) (S : VS) (p1 : Int32) (p2 : Int32) {r : VS} (hF : f_X5_payLoans S p1 p2 = some r) : CTv l D (jtys cI cZ cV) yX5_payLoans cX5_payLoans 6 none rmX5_payLoans B [.ref (ad 22), .int p1, .int p2] S r := by
  refine CTv.of [(0, .ref (ad 22)), (1, .int p1), (2, .int p2)] rfl (Nat.le_of_ble_eq_true rfl) (by decide) ⟨rfl, rfl⟩ (fun X e1 e2 e3 e4 e5 e6 e7 h hE => ?_)
  subst e1; subst e2; subst e3; subst e4; subst e5; subst e6
  exact k_X5_payLoans h hV e7 hE hF
abbrev rmX5_takeToken : Room := { frames := 3, cells := 0, slots := 0, locals := 68 }
theorem cw_X5_takeToken : CWv RX5 yX5_takeToken cX5_takeToken 5 none 2 := ⟨q2_119, q2_120, q1_2, q2_121, ⟨rfl, by decide +kernel, by decide +kernel, by decide +kernel⟩⟩
set_option maxHeartbeats 4000000 in
set_option maxRecDepth 100000 in
theorem k_X5_takeToken {X : JX VS} {ad : Nat → Nat} (h : OK X RX5 cX5_takeToken rmX5_takeToken) (hV : IsVill X.cI X.B ad) (hnL : X.nL = 5) {res : VS} {S : VS} {p1 : Int32} {p2 : Int32} (hE : EXv X cX5_takeToken res) (hF : f_X5_takeToken S p1 p2 = some res) : J X 0 [(0, .ref (ad 22)), (1, .int p1), (2, .int p2)] [] S := by
  rw [f_X5_takeToken] at hF
  refine j_aload_n h 0 rfl rfl dX5_takeToken_0 ?_
  refine j_iload_n h 1 rfl rfl dX5_takeToken_1 ?_
  refine j_iload_n h 2 rfl rfl dX5_takeToken_2 ?_
  obtain ⟨r_1, hr_1, hF⟩ := bind_row hF
  refine j_callVi h (st := []) (S' := S) (c_X5_partForDebt X.l X.D X.cI X.cZ X.cV hV S p1 p2 hr_1) rfl rfl q2_122 cw_X5_partForDebt hV.2.2.2.2.1.o rfl rfl rfl ⟨rfl, rfl, Nat.le_of_ble_eq_true rfl, Nat.le_of_ble_eq_true rfl⟩ _ rfl (Nat.le_of_ble_eq_true rfl) dX5_takeToken_3 ?_
  refine j_istore_n h hnL [(3, .int r_1), (0, .ref (ad 22)), (1, .int p1), (2, .int p2)] rfl (by decide) rfl dX5_takeToken_6 ?_
  refine j_aload_n h 1 rfl rfl dX5_takeToken_7 ?_
  refine j_iload_n h 2 rfl rfl dX5_takeToken_8 ?_
  refine j_iload_n h 3 rfl rfl dX5_takeToken_9 ?_
  obtain ⟨r_2, hr_2, hF⟩ := bind_row hF
  refine j_callVi h (st := []) (S' := S) (c_X5_partForLoans X.l X.D X.cI X.cZ X.cV hV S p1 p2 hr_2) rfl rfl q2_127 cw_X5_partForLoans hV.2.2.2.2.1.o rfl rfl rfl ⟨rfl, rfl, Nat.le_of_ble_eq_true rfl, Nat.le_of_ble_eq_true rfl⟩ _ rfl (Nat.le_of_ble_eq_true rfl) dX5_takeToken_10 ?_
  refine j_istore h hnL [(4, .int r_2), (3, .int r_1), (0, .ref (ad 22)), (1, .int p1), (2, .int p2)] (by decide) rfl dX5_takeToken_13 ?_
  refine j_aload_n h 2 rfl rfl dX5_takeToken_15 ?_
  refine j_get h hV.2.2.2.2.1.o inX5 rfl 0 (by decide) rfl q1_117 rfl dX5_takeToken_16 ?_
  refine j_get h hV.2.1.o inX2 rfl 3 (by decide) rfl q1_38 rfl dX5_takeToken_19 ?_
  refine j_iload_n h 3 rfl rfl dX5_takeToken_22 ?_
  refine j_dup2 h rfl rfl dX5_takeToken_23 ?_
  obtain ⟨hb_3, hF⟩ := bnd_row hF
  refine ja_iald h (get := fun v => v) (put := fun _ v => v) (hV.1 2 (by decide)) hb_3 dX5_takeToken_24 ?_
  refine j_iload_n h 1 rfl rfl dX5_takeToken_25 ?_
  refine j_isub h dX5_takeToken_26 ?_
  obtain ⟨hb_4, hF⟩ := bnd_row hF
  refine ja_iast h (get := fun v => v) (put := fun _ v => v) (hV.1 2 (by decide)) hb_4 dX5_takeToken_27 ?_
  refine j_letS hF (fun S_5 hF => ?_)
  refine j_aload_n h 2 rfl rfl dX5_takeToken_28 ?_
  refine j_iload_n h 3 rfl rfl dX5_takeToken_29 ?_
  refine j_iload h 0 rfl dX5_takeToken_30 ?_
  obtain ⟨r_6, hr_6, hF⟩ := bind_row hF
  refine j_callVv h (st := []) (S' := r_6) (c_X5_payLoans X.l X.D X.cI X.cZ X.cV hV S_5 p1 r_2 hr_6) rfl rfl q2_139 cw_X5_payLoans hV.2.2.2.2.1.o rfl rfl rfl ⟨rfl, rfl, Nat.le_of_ble_eq_true rfl, Nat.le_of_ble_eq_true rfl⟩ _ rfl (Nat.le_of_ble_eq_true rfl) dX5_takeToken_32 ?_
  refine j_aload_n h 2 rfl rfl dX5_takeToken_35 ?_
  refine j_get h hV.2.2.2.2.1.o inX5 rfl 0 (by decide) rfl q1_117 rfl dX5_takeToken_36 ?_
  refine j_get h hV.2.1.o inX2 rfl 5 (by decide) rfl q1_42 rfl dX5_takeToken_39 ?_
  refine j_iload_n h 3 rfl rfl dX5_takeToken_42 ?_
  refine j_dup2 h rfl rfl dX5_takeToken_43 ?_
  obtain ⟨hb_7, hF⟩ := bnd_row hF
  refine ja_iald h (get := fun v => v) (put := fun _ v => v) (hV.1 4 (by decide)) hb_7 dX5_takeToken_44 ?_
  refine j_iload_n h 4 rfl rfl dX5_takeToken_45 ?_
  refine j_iload_n h 1 rfl rfl dX5_takeToken_46 ?_
  refine j_isub h dX5_takeToken_47 ?_
  refine j_iload h 0 rfl dX5_takeToken_48 ?_
  refine j_isub h dX5_takeToken_50 ?_
  refine j_iadd h dX5_takeToken_51 ?_
  obtain ⟨hb_8, hF⟩ := bnd_row hF
  refine ja_iast h (get := fun v => v) (put := fun _ v => v) (hV.1 4 (by decide)) hb_8 dX5_takeToken_52 ?_
  refine j_letS hF (fun S_9 hF => ?_)
  refine j_aload_n h 2 rfl rfl dX5_takeToken_53 ?_
  refine j_get h hV.2.2.2.2.1.o inX5 rfl 4 (by decide) rfl q1_125 rfl dX5_takeToken_54 ?_
  refine j_bipush h (v := 6) (by decide) dX5_takeToken_57 ?_
  refine j_dup2 h rfl rfl dX5_takeToken_59 ?_
  obtain ⟨hb_10, hF⟩ := bnd_row hF
  refine ja_iald h (get := fun v => v) (put := fun _ v => v) (hV.1 18 (by decide)) hb_10 dX5_takeToken_60 ?_
  refine j_iload_n h 4 rfl rfl dX5_takeToken_61 ?_
  refine j_iadd h dX5_takeToken_62 ?_
  obtain ⟨hb_11, hF⟩ := bnd_row hF
  refine ja_iast h (get := fun v => v) (put := fun _ v => v) (hV.1 18 (by decide)) hb_11 dX5_takeToken_63 ?_
  refine j_letS hF (fun S_12 hF => ?_)
  refine j_aload_n h 2 rfl rfl dX5_takeToken_64 ?_
  refine j_get h hV.2.2.2.2.1.o inX5 rfl 4 (by decide) rfl q1_125 rfl dX5_takeToken_65 ?_
  refine j_bipush h (v := 7) (by decide) dX5_takeToken_68 ?_
  refine j_dup2 h rfl rfl dX5_takeToken_70 ?_
  obtain ⟨hb_13, hF⟩ := bnd_row hF
  refine ja_iald h (get := fun v => v) (put := fun _ v => v) (hV.1 18 (by decide)) hb_13 dX5_takeToken_71 ?_
  refine j_iload_n h 1 rfl rfl dX5_takeToken_72 ?_
  refine j_iadd h dX5_takeToken_73 ?_
  obtain ⟨hb_14, hF⟩ := bnd_row hF
  refine ja_iast h (get := fun v => v) (put := fun _ v => v) (hV.1 18 (by decide)) hb_14 dX5_takeToken_74 ?_
  refine j_letS hF (fun S_15 hF => ?_)
  cases hF
  exact hE _ _ dX5_takeToken_75
theorem c_X5_takeToken (l : Launch) (D : va_G) (cI cZ cV : ClassId) {B : VS → va_W} {ad : Nat → Nat} (hV : IsVill cI B ad) (S : VS) (p1 : Int32) (p2 : Int32) {r : VS} (hF : f_X5_takeToken S p1 p2 = some r) : CTv l D (jtys cI cZ cV) yX5_takeToken cX5_takeToken 5 none rmX5_takeToken B [.ref (ad 22), .int p1, .int p2] S r := by
  refine CTv.of [(0, .ref (ad 22)), (1, .int p1), (2, .int p2)] rfl (Nat.le_of_ble_eq_true rfl) (by decide) ⟨rfl, rfl⟩ (fun X e1 e2 e3 e4 e5 e6 e7 h hE => ?_)
  subst e1; subst e2; subst e3; subst e4; subst e5; subst e6
  exact k_X5_takeToken h hV e7 hE hF
abbrev rmX5_shed : Room := { frames := 1, cells := 0, slots := 0, locals := 24 }
theorem cw_X5_shed : CWv RX5 yX5_shed cX5_shed 3 none 1 := ⟨q2_215, qs5, q1_2, q2_216, ⟨rfl, by decide +kernel, by decide +kernel, by decide +kernel⟩⟩
set_option maxHeartbeats 4000000 in
set_option maxRecDepth 100000 in
theorem k_X5_shed_114 {X : JX VS} {ad : Nat → Nat} (h : OK X RX5 cX5_shed rmX5_shed) (hV : IsVill X.cI X.B ad) (hnL : X.nL = 3) {res : VS} {S : VS} {x1 : Int32} {x2 : Int32} {s0 : Int32} {K22 : Int32 → VS → Option (VS)} (hK22 : ∀ (x2 : Int32) (S : VS), K22 x2 S = some res → J X 22 [(0, .ref (ad 22)), (1, .int x1), (2, .int x2)] [] S) (hE : EXv X cX5_shed res) (hF : f_X5_shed_114 K22 S x1 x2 s0 = some res) : J X 114 [(0, .ref (ad 22)), (1, .int x1), (2, .int x2)] [.int s0, .ref (ad 22)] S := by
  rw [f_X5_shed_114] at hF
  refine j_put h (hV.2.2.2.2.2.2) inX5 tyX5_ok nmX5 rfl (by decide) rfl q1_136 (Nat.le_of_ble_eq_true rfl) dX5_shed_114 ?_
  refine j_letS hF (fun S_3 hF => ?_)
  refine j_iincL hF (fun x_4 ex_4 hF => ?_)
  refine j_iinc h hnL 2 [(2, .int x_4), (0, .ref (ad 22)), (1, .int x1)] rfl ex_4 (by decide) (by decide) rfl dX5_shed_117 ?_
  refine j_goto h 22 (by decide) dX5_shed_120 ?_
  exact j_sub [1, 2, 0] rfl (hK22 _ _ hF)
set_option maxHeartbeats 4000000 in
set_option maxRecDepth 100000 in
theorem k_X5_shed_100 {X : JX VS} {ad : Nat → Nat} (h : OK X RX5 cX5_shed rmX5_shed) (hV : IsVill X.cI X.B ad) (hnL : X.nL = 3) {res : VS} {S : VS} {x1 : Int32} {x2 : Int32} {K22 : Int32 → VS → Option (VS)} (hK22 : ∀ (x2 : Int32) (S : VS), K22 x2 S = some res → J X 22 [(0, .ref (ad 22)), (1, .int x1), (2, .int x2)] [] S) (hE : EXv X cX5_shed res) (hF : f_X5_shed_100 K22 S x1 x2 = some res) : J X 100 [(0, .ref (ad 22)), (1, .int x1), (2, .int x2)] [] S := by
  rw [f_X5_shed_100] at hF
  refine j_aload_n h 0 rfl rfl dX5_shed_100 ?_
  refine j_aload_n h 0 rfl rfl dX5_shed_101 ?_
  refine j_get h hV.2.2.2.2.1.o inX5 rfl 10 (by decide) rfl q1_136 rfl dX5_shed_102 ?_
  refine j_iconst h (v := 1) (by decide) dX5_shed_105 ?_
  refine j_icmp_ne h 113 (by decide) dX5_shed_106 hF (fun hF => ?_) (fun hF => ?_)
  · refine j_iconst h (v := 2) (by decide) dX5_shed_109 ?_
    refine j_goto h 114 (by decide) dX5_shed_110 ?_
    exact j_sub [0, 1, 2] rfl (k_X5_shed_114 h hV hnL hK22 hE hF)
  · refine j_iconst h (v := 1) (by decide) dX5_shed_113 ?_
    exact j_sub [0, 1, 2] rfl (k_X5_shed_114 h hV hnL hK22 hE hF)
set_option maxHeartbeats 4000000 in
set_option maxRecDepth 100000 in
theorem k_X5_shed_22 {X : JX VS} {ad : Nat → Nat} (h : OK X RX5 cX5_shed rmX5_shed) (hV : IsVill X.cI X.B ad) (hnL : X.nL = 3) {res : VS} {x1 : Int32} (hE : EXv X cX5_shed res) : ∀ (n : Nat) (x2 : Int32) (S : VS), f_X5_shed_22 x1 n x2 S = some res → J X 22 [(0, .ref (ad 22)), (1, .int x1), (2, .int x2)] [] S := by
  intro n
  induction n with
  | zero =>
    intro x2 S hF
    rw [f_X5_shed_22] at hF
    cases hF
  | succ n ih =>
    intro x2 S hF
    rw [f_X5_shed_22] at hF
    refine j_iload_n h 2 rfl rfl dX5_shed_22 ?_
    refine j_iconst h (v := 2) (by decide) dX5_shed_23 ?_
    refine j_icmp_ge h 123 (by decide) dX5_shed_24 hF (fun hF => ?_) (fun hF => ?_)
    · cases hF
      exact hE _ _ dX5_shed_123
    · refine j_aload_n h 0 rfl rfl dX5_shed_27 ?_
      refine j_get h hV.2.2.2.2.1.o inX5 rfl 0 (by decide) rfl q1_117 rfl dX5_shed_28 ?_
      refine j_aload_n h 0 rfl rfl dX5_shed_31 ?_
      refine j_get h hV.2.2.2.2.1.o inX5 rfl 0 (by decide) rfl q1_117 rfl dX5_shed_32 ?_
      refine j_get h hV.2.1.o inX2 rfl 10 (by decide) rfl q1_49 rfl dX5_shed_35 ?_
      obtain ⟨r_1, hr_1, hF⟩ := bind_row hF
      refine j_callVi h (st := []) (S' := S) (c_X2_sum X.l X.D X.cI X.cZ X.cV hV (by decide) S hr_1) rfl rfl q2_217 cw_X2_sum hV.2.1.o rfl rfl rfl ⟨rfl, rfl, Nat.le_of_ble_eq_true rfl, Nat.le_of_ble_eq_true rfl⟩ _ rfl (Nat.le_of_ble_eq_true rfl) dX5_shed_38 ?_
      refine j_iload_n h 1 rfl rfl dX5_shed_41 ?_
      refine j_icmp_le h 123 (by decide) dX5_shed_42 hF (fun hF => ?_) (fun hF => ?_)
      · cases hF
        exact hE _ _ dX5_shed_123
      · refine j_aload_n h 0 rfl rfl dX5_shed_45 ?_
        refine j_get h hV.2.2.2.2.1.o inX5 rfl 0 (by decide) rfl q1_117 rfl dX5_shed_46 ?_
        refine j_aload_n h 0 rfl rfl dX5_shed_49 ?_
        refine j_get h hV.2.2.2.2.1.o inX5 rfl 10 (by decide) rfl q1_136 rfl dX5_shed_50 ?_
        refine j_aload_n h 0 rfl rfl dX5_shed_53 ?_
        refine j_get h hV.2.2.2.2.1.o inX5 rfl 0 (by decide) rfl q1_117 rfl dX5_shed_54 ?_
        refine j_get h hV.2.1.o inX2 rfl 10 (by decide) rfl q1_49 rfl dX5_shed_57 ?_
        obtain ⟨r_2, hr_2, hF⟩ := bind_row hF
        refine j_callVi h (st := []) (S' := S) (c_X2_sumFrom X.l X.D X.cI X.cZ X.cV hV (by decide) S (S 22 4) hr_2) rfl rfl q2_221 cw_X2_sumFrom hV.2.1.o rfl rfl rfl ⟨rfl, rfl, Nat.le_of_ble_eq_true rfl, Nat.le_of_ble_eq_true rfl⟩ _ rfl (Nat.le_of_ble_eq_true rfl) dX5_shed_60 ?_
        refine j_if_le h 100 (by decide) dX5_shed_63 hF (fun hF => ?_) (fun hF => ?_)
        · exact j_sub [0, 1, 2] rfl (k_X5_shed_100 h hV hnL ih hE hF)
        · refine j_aload_n h 0 rfl rfl dX5_shed_66 ?_
          refine j_get h hV.2.2.2.2.1.o inX5 rfl 0 (by decide) rfl q1_117 rfl dX5_shed_67 ?_
          refine j_aload_n h 0 rfl rfl dX5_shed_70 ?_
          refine j_get h hV.2.2.2.2.1.o inX5 rfl 10 (by decide) rfl q1_136 rfl dX5_shed_71 ?_
          obtain ⟨r_5, hr_5, hF⟩ := bind_row hF
          refine j_callVv h (st := []) (S' := r_5) (c_X2_wantNothing X.l X.D X.cI X.cZ X.cV hV S (S 22 4) hr_5) rfl rfl q2_225 cw_X2_wantNothing hV.2.1.o rfl rfl rfl ⟨rfl, rfl, Nat.le_of_ble_eq_true rfl, Nat.le_of_ble_eq_true rfl⟩ _ rfl (Nat.le_of_ble_eq_true rfl) dX5_shed_74 ?_
          refine j_aload_n h 0 rfl rfl dX5_shed_77 ?_
          refine j_get h hV.2.2.2.2.1.o inX5 rfl 6 (by decide) rfl q1_129 rfl dX5_shed_78 ?_
          refine j_aload_n h 0 rfl rfl dX5_shed_81 ?_
          refine j_get h hV.2.2.2.2.1.o inX5 rfl 10 (by decide) rfl q1_136 rfl dX5_shed_82 ?_
          refine j_iconst h (v := 1) (by decide) dX5_shed_85 ?_
          obtain ⟨hb_6, hF⟩ := bnd_row hF
          refine ja_iast h (get := fun v => v) (put := fun _ v => v) (hV.1 20 (by decide)) hb_6 dX5_shed_86 ?_
          refine j_letS hF (fun S_7 hF => ?_)
          refine j_aload_n h 0 rfl rfl dX5_shed_87 ?_
          refine j_get h hV.2.2.2.2.1.o inX5 rfl 5 (by decide) rfl q1_127 rfl dX5_shed_88 ?_
          refine j_aload_n h 0 rfl rfl dX5_shed_91 ?_
          refine j_get h hV.2.2.2.2.1.o inX5 rfl 10 (by decide) rfl q1_136 rfl dX5_shed_92 ?_
          refine j_dup2 h rfl rfl dX5_shed_95 ?_
          obtain ⟨hb_8, hF⟩ := bnd_row hF
          refine ja_iald h (get := fun v => v) (put := fun _ v => v) (hV.1 19 (by decide)) hb_8 dX5_shed_96 ?_
          refine j_iconst h (v := 1) (by decide) dX5_shed_97 ?_
          refine j_iadd h dX5_shed_98 ?_
          obtain ⟨hb_9, hF⟩ := bnd_row hF
          refine ja_iast h (get := fun v => v) (put := fun _ v => v) (hV.1 19 (by decide)) hb_9 dX5_shed_99 ?_
          refine j_letS hF (fun S_10 hF => ?_)
          exact j_sub [0, 1, 2] rfl (k_X5_shed_100 h hV hnL ih hE hF)
set_option maxHeartbeats 4000000 in
set_option maxRecDepth 100000 in
theorem k_X5_shed_2 {X : JX VS} {ad : Nat → Nat} (h : OK X RX5 cX5_shed rmX5_shed) (hV : IsVill X.cI X.B ad) (hnL : X.nL = 3) {res : VS} {x1 : Int32} (hE : EXv X cX5_shed res) : ∀ (n : Nat) (x2 : Int32) (S : VS), f_X5_shed_2 x1 n x2 S = some res → J X 2 [(0, .ref (ad 22)), (1, .int x1), (2, .int x2)] [] S := by
  intro n
  induction n with
  | zero =>
    intro x2 S hF
    rw [f_X5_shed_2] at hF
    cases hF
  | succ n ih =>
    intro x2 S hF
    rw [f_X5_shed_2] at hF
    refine j_iload_n h 2 rfl rfl dX5_shed_2 ?_
    refine j_iconst h (v := 3) (by decide) dX5_shed_3 ?_
    refine j_icmp_ge h 20 (by decide) dX5_shed_4 hF (fun hF => ?_) (fun hF => ?_)
    · refine j_iconst h (v := 0) (by decide) dX5_shed_20 ?_
      refine j_istore_n h hnL [(2, .int (0 : Int32)), (0, .ref (ad 22)), (1, .int x1)] rfl (by decide) rfl dX5_shed_21 ?_
      exact j_sub [1, 2, 0] rfl (k_X5_shed_22 h hV hnL hE fuel _ _ hF)
    · refine j_aload_n h 0 rfl rfl dX5_shed_7 ?_
      refine j_get h hV.2.2.2.2.1.o inX5 rfl 6 (by decide) rfl q1_129 rfl dX5_shed_8 ?_
      refine j_iload_n h 2 rfl rfl dX5_shed_11 ?_
      refine j_iconst h (v := 0) (by decide) dX5_shed_12 ?_
      obtain ⟨hb_11, hF⟩ := bnd_row hF
      refine ja_iast h (get := fun v => v) (put := fun _ v => v) (hV.1 20 (by decide)) hb_11 dX5_shed_13 ?_
      refine j_letS hF (fun S_12 hF => ?_)
      refine j_iincL hF (fun x_13 ex_13 hF => ?_)
      refine j_iinc h hnL 2 [(2, .int x_13), (0, .ref (ad 22)), (1, .int x1)] rfl ex_13 (by decide) (by decide) rfl dX5_shed_14 ?_
      refine j_goto h 2 (by decide) dX5_shed_17 ?_
      exact j_sub [1, 2, 0] rfl (ih _ _ hF)
set_option maxHeartbeats 4000000 in
set_option maxRecDepth 100000 in
theorem k_X5_shed {X : JX VS} {ad : Nat → Nat} (h : OK X RX5 cX5_shed rmX5_shed) (hV : IsVill X.cI X.B ad) (hnL : X.nL = 3) {res : VS} {S : VS} {p1 : Int32} (hE : EXv X cX5_shed res) (hF : f_X5_shed S p1 = some res) : J X 0 [(0, .ref (ad 22)), (1, .int p1)] [] S := by
  rw [f_X5_shed] at hF
  refine j_iconst h (v := 0) (by decide) dX5_shed_0 ?_
  refine j_istore_n h hnL [(2, .int (0 : Int32)), (0, .ref (ad 22)), (1, .int p1)] rfl (by decide) rfl dX5_shed_1 ?_
  exact j_sub [1, 2, 0] rfl (k_X5_shed_2 h hV hnL hE fuel _ _ hF)
theorem c_X5_shed (l : Launch) (D : va_G) (cI cZ cV : ClassId) {B : VS → va_W} {ad : Nat → Nat} (hV : IsVill cI B ad) (S : VS) (p1 : Int32) {r : VS} (hF : f_X5_shed S p1 = some r) : CTv l D (jtys cI cZ cV) yX5_shed cX5_shed 3 none rmX5_shed B [.ref (ad 22), .int p1] S r := by
  refine CTv.of [(0, .ref (ad 22)), (1, .int p1)] rfl (Nat.le_of_ble_eq_true rfl) (by decide) ⟨rfl, rfl⟩ (fun X e1 e2 e3 e4 e5 e6 e7 h hE => ?_)
  subst e1; subst e2; subst e3; subst e4; subst e5; subst e6
  exact k_X5_shed h hV e7 hE hF
abbrev rmX5_partOf : Room := { frames := 0, cells := 0, slots := 0, locals := 0 }
theorem cw_X5_partOf : CWv RX5 yX5_partOf cX5_partOf 3 (some .int) 2 := ⟨q2_235, qs7, q1_2, q2_236, ⟨rfl, by decide +kernel, by decide +kernel, by decide +kernel⟩⟩
set_option maxHeartbeats 4000000 in
set_option maxRecDepth 100000 in
theorem k_X5_partOf {X : JX VS} {ad : Nat → Nat} (h : OK X RX5 cX5_partOf rmX5_partOf) (hV : IsVill X.cI X.B ad) (hnL : X.nL = 3) {res : Int32} {S : VS} {p1 : Int32} {p2 : Int32} (hE : EXi X cX5_partOf res S) (hF : f_X5_partOf S p1 p2 = some res) : J X 0 [(0, .ref (ad 22)), (1, .int p1), (2, .int p2)] [] S := by
  rw [f_X5_partOf] at hF
  refine j_iload_n h 2 rfl rfl dX5_partOf_0 ?_
  refine j_iload_n h 1 rfl rfl dX5_partOf_1 ?_
  refine j_icmp_lt h 7 (by decide) dX5_partOf_2 hF (fun hF => ?_) (fun hF => ?_)
  · refine j_iload_n h 2 rfl rfl dX5_partOf_7 ?_
    refine j_bipush h (v := 100) (by decide) dX5_partOf_8 ?_
    refine j_imul h dX5_partOf_10 ?_
    refine j_iload_n h 1 rfl rfl dX5_partOf_11 ?_
    refine j_aload_n h 0 rfl rfl dX5_partOf_12 ?_
    refine j_get h hV.2.2.2.2.1.o inX5 rfl 3 (by decide) rfl q1_123 rfl dX5_partOf_13 ?_
    refine j_iconst h (v := 3) (by decide) dX5_partOf_16 ?_
    obtain ⟨hb_1, hF⟩ := bnd_row hF
    refine ja_iald h (get := fun v => v) (put := fun _ v => v) (hV.1 17 (by decide)) hb_1 dX5_partOf_17 ?_
    refine j_imul h dX5_partOf_18 ?_
    refine j_icmp_lt h 26 (by decide) dX5_partOf_19 hF (fun hF => ?_) (fun hF => ?_)
    · refine j_iconst h (v := 0) (by decide) dX5_partOf_26 ?_
      cases hF
      exact hE _ _ dX5_partOf_27
    · refine j_iload_n h 2 rfl rfl dX5_partOf_22 ?_
      refine j_goto h 27 (by decide) dX5_partOf_23 ?_
      cases hF
      exact hE _ _ dX5_partOf_27
  · refine j_iload_n h 1 rfl rfl dX5_partOf_5 ?_
    cases hF
    exact hE _ _ dX5_partOf_6
theorem c_X5_partOf (l : Launch) (D : va_G) (cI cZ cV : ClassId) {B : VS → va_W} {ad : Nat → Nat} (hV : IsVill cI B ad) (S : VS) (p1 : Int32) (p2 : Int32) {r : Int32} (hF : f_X5_partOf S p1 p2 = some r) : CTi l D (jtys cI cZ cV) yX5_partOf cX5_partOf 3 (some .int) rmX5_partOf B [.ref (ad 22), .int p1, .int p2] S r S := by
  refine CTi.of [(0, .ref (ad 22)), (1, .int p1), (2, .int p2)] rfl (Nat.le_of_ble_eq_true rfl) (by decide) ⟨rfl, rfl⟩ (fun X e1 e2 e3 e4 e5 e6 e7 h hE => ?_)
  subst e1; subst e2; subst e3; subst e4; subst e5; subst e6
  exact k_X5_partOf h hV e7 hE hF
abbrev rmX5_serve : Room := { frames := 2, cells := 0, slots := 0, locals := 45 }
theorem cw_X5_serve : CWv RX5 yX5_serve cX5_serve 6 (some .int) 1 := ⟨q2_231, qs6, q1_2, q2_232, ⟨rfl, by decide +kernel, by decide +kernel, by decide +kernel⟩⟩
set_option maxHeartbeats 4000000 in
set_option maxRecDepth 100000 in
theorem k_X5_serve_86 {X : JX VS} {ad : Nat → Nat} (h : OK X RX5 cX5_serve rmX5_serve) (hV : IsVill X.cI X.B ad) (hnL : X.nL = 6) {res : Int32 × VS} {S : VS} {x1 : Int32} {x2 : Int32} {x3 : Int32} {x4 : Int32} {K12 : Int32 → Int32 → VS → Option (Int32 × VS)} (hK12 : ∀ (x2 : Int32) (x4 : Int32) (S : VS), K12 x2 x4 S = some res → J X 12 [(0, .ref (ad 22)), (1, .int x1), (2, .int x2), (3, .int x3), (4, .int x4)] [] S) (hE : EXi X cX5_serve res.1 res.2) (hF : f_X5_serve_86 K12 S x1 x2 x3 x4 = some res) : J X 86 [(0, .ref (ad 22)), (1, .int x1), (2, .int x2), (3, .int x3), (4, .int x4)] [] S := by
  rw [f_X5_serve_86] at hF
  refine j_iincL hF (fun x_8 ex_8 hF => ?_)
  refine j_iinc h hnL 4 [(4, .int x_8), (0, .ref (ad 22)), (1, .int x1), (2, .int x2), (3, .int x3)] rfl ex_8 (by decide) (by decide) rfl dX5_serve_86 ?_
  refine j_goto h 12 (by decide) dX5_serve_89 ?_
  exact j_sub [1, 2, 3, 4, 0] rfl (hK12 _ _ _ hF)
set_option maxHeartbeats 4000000 in
set_option maxRecDepth 100000 in
theorem k_X5_serve_78 {X : JX VS} {ad : Nat → Nat} (h : OK X RX5 cX5_serve rmX5_serve) (hV : IsVill X.cI X.B ad) (hnL : X.nL = 6) {res : Int32 × VS} {S : VS} {x1 : Int32} {x2 : Int32} {x3 : Int32} {x4 : Int32} {x5 : Int32} {s0 : Int32} {s1 : Int32} {s2 : Int32} {K12 : Int32 → Int32 → VS → Option (Int32 × VS)} (hK12 : ∀ (x2 : Int32) (x4 : Int32) (S : VS), K12 x2 x4 S = some res → J X 12 [(0, .ref (ad 22)), (1, .int x1), (2, .int x2), (3, .int x3), (4, .int x4)] [] S) (hE : EXi X cX5_serve res.1 res.2) (hF : f_X5_serve_78 K12 S x1 x2 x3 x4 x5 s0 s1 s2 = some res) : J X 78 [(0, .ref (ad 22)), (1, .int x1), (2, .int x2), (3, .int x3), (4, .int x4), (5, .int x5)] [.int s0, .int s1, .int s2, .ref (ad 23)] S := by
  rw [f_X5_serve_78] at hF
  obtain ⟨r_6, hr_6, hF⟩ := bind_row hF
  refine j_callVv h (st := []) (S' := r_6) (c_X2_receive X.l X.D X.cI X.cZ X.cV hV S s2 s1 s0 hr_6) rfl rfl q2_237 cw_X2_receive hV.2.1.o rfl rfl rfl ⟨rfl, rfl, Nat.le_of_ble_eq_true rfl, Nat.le_of_ble_eq_true rfl⟩ _ rfl (Nat.le_of_ble_eq_true rfl) dX5_serve_78 ?_
  refine j_iload_n h 2 rfl rfl dX5_serve_81 ?_
  refine j_iload h 5 rfl dX5_serve_82 ?_
  refine j_isub h dX5_serve_84 ?_
  refine j_let hF (fun x_7 hF => ?_)
  refine j_istore_n h hnL [(2, .int x_7), (0, .ref (ad 22)), (1, .int x1), (3, .int x3), (4, .int x4), (5, .int x5)] rfl (by decide) rfl dX5_serve_85 ?_
  exact j_sub [1, 2, 0, 3, 4] rfl (k_X5_serve_86 h hV hnL hK12 hE hF)
set_option maxHeartbeats 4000000 in
set_option maxRecDepth 100000 in
theorem k_X5_serve_12 {X : JX VS} {ad : Nat → Nat} (h : OK X RX5 cX5_serve rmX5_serve) (hV : IsVill X.cI X.B ad) (hnL : X.nL = 6) {res : Int32 × VS} {x1 : Int32} {x3 : Int32} {K4 : Int32 → Int32 → VS → Option (Int32 × VS)} (hK4 : ∀ (x2 : Int32) (x3 : Int32) (S : VS), K4 x2 x3 S = some res → J X 4 [(0, .ref (ad 22)), (1, .int x1), (2, .int x2), (3, .int x3)] [] S) (hE : EXi X cX5_serve res.1 res.2) : ∀ (n : Nat) (x2 : Int32) (x4 : Int32) (S : VS), f_X5_serve_12 K4 x1 x3 n x2 x4 S = some res → J X 12 [(0, .ref (ad 22)), (1, .int x1), (2, .int x2), (3, .int x3), (4, .int x4)] [] S := by
  intro n
  induction n with
  | zero =>
    intro x2 x4 S hF
    rw [f_X5_serve_12] at hF
    cases hF
  | succ n ih =>
    intro x2 x4 S hF
    rw [f_X5_serve_12] at hF
    refine j_iload h 4 rfl dX5_serve_12 ?_
    refine j_aload_n h 0 rfl rfl dX5_serve_14 ?_
    refine j_get h hV.2.2.2.2.1.o inX5 rfl 0 (by decide) rfl q1_117 rfl dX5_serve_15 ?_
    refine j_get h hV.2.1.o inX2 rfl 0 (by decide) rfl q1_32 rfl dX5_serve_18 ?_
    refine j_icmp_ge h 92 (by decide) dX5_serve_21 hF (fun hF => ?_) (fun hF => ?_)
    · refine j_iincL hF (fun x_1 ex_1 hF => ?_)
      refine j_iinc h hnL 3 [(3, .int x_1), (0, .ref (ad 22)), (1, .int x1), (2, .int x2), (4, .int x4)] rfl ex_1 (by decide) (by decide) rfl dX5_serve_92 ?_
      refine j_goto h 4 (by decide) dX5_serve_95 ?_
      exact j_sub [1, 2, 3, 0] rfl (hK4 _ _ _ hF)
    · refine j_aload_n h 0 rfl rfl dX5_serve_24 ?_
      refine j_get h hV.2.2.2.2.1.o inX5 rfl 0 (by decide) rfl q1_117 rfl dX5_serve_25 ?_
      refine j_get h hV.2.1.o inX2 rfl 1 (by decide) rfl q1_34 rfl dX5_serve_28 ?_
      refine j_iload h 4 rfl dX5_serve_31 ?_
      obtain ⟨hb_2, hF⟩ := bnd_row hF
      refine ja_iald h (get := fun v => v) (put := fun _ v => v) (hV.1 0 (by decide)) hb_2 dX5_serve_33 ?_
      refine j_iload_n h 3 rfl rfl dX5_serve_34 ?_
      refine j_icmp_ne h 86 (by decide) dX5_serve_35 hF (fun hF => ?_) (fun hF => ?_)
      · refine j_aload_n h 0 rfl rfl dX5_serve_38 ?_
        refine j_aload_n h 0 rfl rfl dX5_serve_39 ?_
        refine j_get h hV.2.2.2.2.1.o inX5 rfl 0 (by decide) rfl q1_117 rfl dX5_serve_40 ?_
        refine j_get h hV.2.1.o inX2 rfl 10 (by decide) rfl q1_49 rfl dX5_serve_43 ?_
        refine j_iload h 4 rfl dX5_serve_46 ?_
        obtain ⟨hb_3, hF⟩ := bnd_row hF
        refine ja_iald h (get := fun v => v) (put := fun _ v => v) (hV.1 9 (by decide)) hb_3 dX5_serve_48 ?_
        refine j_iload_n h 2 rfl rfl dX5_serve_49 ?_
        obtain ⟨r_4, hr_4, hF⟩ := bind_row hF
        refine j_callVi h (st := []) (S' := S) (c_X5_partOf X.l X.D X.cI X.cZ X.cV hV S (rd S 9 x4) x2 hr_4) rfl rfl q2_233 cw_X5_partOf hV.2.2.2.2.1.o rfl rfl rfl ⟨rfl, rfl, Nat.le_of_ble_eq_true rfl, Nat.le_of_ble_eq_true rfl⟩ _ rfl (Nat.le_of_ble_eq_true rfl) dX5_serve_50 ?_
        refine j_istore h hnL [(5, .int r_4), (0, .ref (ad 22)), (1, .int x1), (2, .int x2), (3, .int x3), (4, .int x4)] (by decide) rfl dX5_serve_53 ?_
        refine j_aload_n h 1 rfl rfl dX5_serve_55 ?_
        refine j_get h hV.2.2.2.2.1.o inX5 rfl 0 (by decide) rfl q1_117 rfl dX5_serve_56 ?_
        refine j_iload h 5 rfl dX5_serve_59 ?_
        refine j_iload h 0 rfl dX5_serve_61 ?_
        refine j_aload_n h 1 rfl rfl dX5_serve_63 ?_
        refine j_get h hV.2.2.2.2.1.o inX5 rfl 6 (by decide) rfl q1_129 rfl dX5_serve_64 ?_
        refine j_iload_n h 4 rfl rfl dX5_serve_67 ?_
        obtain ⟨hb_5, hF⟩ := bnd_row hF
        refine ja_iald h (get := fun v => v) (put := fun _ v => v) (hV.1 20 (by decide)) hb_5 dX5_serve_68 ?_
        refine j_iconst h (v := 1) (by decide) dX5_serve_69 ?_
        refine j_icmp_ne h 77 (by decide) dX5_serve_70 hF (fun hF => ?_) (fun hF => ?_)
        · refine j_iconst h (v := 1) (by decide) dX5_serve_73 ?_
          refine j_goto h 78 (by decide) dX5_serve_74 ?_
          exact j_sub [1, 2, 3, 4, 5, 0] rfl (k_X5_serve_78 h hV hnL ih hE hF)
        · refine j_iconst h (v := 0) (by decide) dX5_serve_77 ?_
          exact j_sub [1, 2, 3, 4, 5, 0] rfl (k_X5_serve_78 h hV hnL ih hE hF)
      · exact j_sub [0, 1, 2, 3, 4] rfl (k_X5_serve_86 h hV hnL ih hE hF)
set_option maxHeartbeats 4000000 in
set_option maxRecDepth 100000 in
theorem k_X5_serve_4 {X : JX VS} {ad : Nat → Nat} (h : OK X RX5 cX5_serve rmX5_serve) (hV : IsVill X.cI X.B ad) (hnL : X.nL = 6) {res : Int32 × VS} {x1 : Int32} (hE : EXi X cX5_serve res.1 res.2) : ∀ (n : Nat) (x2 : Int32) (x3 : Int32) (S : VS), f_X5_serve_4 x1 n x2 x3 S = some res → J X 4 [(0, .ref (ad 22)), (1, .int x1), (2, .int x2), (3, .int x3)] [] S := by
  intro n
  induction n with
  | zero =>
    intro x2 x3 S hF
    rw [f_X5_serve_4] at hF
    cases hF
  | succ n ih =>
    intro x2 x3 S hF
    rw [f_X5_serve_4] at hF
    refine j_iload_n h 3 rfl rfl dX5_serve_4 ?_
    refine j_iconst h (v := 3) (by decide) dX5_serve_5 ?_
    refine j_icmp_ge h 98 (by decide) dX5_serve_6 hF (fun hF => ?_) (fun hF => ?_)
    · refine j_iload_n h 1 rfl rfl dX5_serve_98 ?_
      refine j_iload_n h 2 rfl rfl dX5_serve_99 ?_
      refine j_isub h dX5_serve_100 ?_
      cases hF
      exact hE _ _ dX5_serve_101
    · refine j_iconst h (v := 0) (by decide) dX5_serve_9 ?_
      refine j_istore h hnL [(4, .int (0 : Int32)), (0, .ref (ad 22)), (1, .int x1), (2, .int x2), (3, .int x3)] (by decide) rfl dX5_serve_10 ?_
      exact j_sub [1, 2, 3, 4, 0] rfl (k_X5_serve_12 h hV hnL ih hE fuel _ _ _ hF)
set_option maxHeartbeats 4000000 in
set_option maxRecDepth 100000 in
theorem k_X5_serve {X : JX VS} {ad : Nat → Nat} (h : OK X RX5 cX5_serve rmX5_serve) (hV : IsVill X.cI X.B ad) (hnL : X.nL = 6) {res : Int32 × VS} {S : VS} {p1 : Int32} (hE : EXi X cX5_serve res.1 res.2) (hF : f_X5_serve S p1 = some res) : J X 0 [(0, .ref (ad 22)), (1, .int p1)] [] S := by
  rw [f_X5_serve] at hF
  refine j_iload_n h 1 rfl rfl dX5_serve_0 ?_
  refine j_istore_n h hnL [(2, .int p1), (0, .ref (ad 22)), (1, .int p1)] rfl (by decide) rfl dX5_serve_1 ?_
  refine j_iconst h (v := 0) (by decide) dX5_serve_2 ?_
  refine j_istore_n h hnL [(3, .int (0 : Int32)), (2, .int p1), (0, .ref (ad 22)), (1, .int p1)] rfl (by decide) rfl dX5_serve_3 ?_
  exact j_sub [2, 3, 1, 0] rfl (k_X5_serve_4 h hV hnL hE fuel _ _ _ hF)
theorem c_X5_serve (l : Launch) (D : va_G) (cI cZ cV : ClassId) {B : VS → va_W} {ad : Nat → Nat} (hV : IsVill cI B ad) (S : VS) (p1 : Int32) {r : Int32 × VS} (hF : f_X5_serve S p1 = some r) : CTi l D (jtys cI cZ cV) yX5_serve cX5_serve 6 (some .int) rmX5_serve B [.ref (ad 22), .int p1] S r.1 r.2 := by
  refine CTi.of [(0, .ref (ad 22)), (1, .int p1)] rfl (Nat.le_of_ble_eq_true rfl) (by decide) ⟨rfl, rfl⟩ (fun X e1 e2 e3 e4 e5 e6 e7 h hE => ?_)
  subst e1; subst e2; subst e3; subst e4; subst e5; subst e6
  exact k_X5_serve h hV e7 hE hF
abbrev rmX5_store : Room := { frames := 2, cells := 0, slots := 0, locals := 46 }
theorem cw_X5_store : CWv RX5 yX5_store cX5_store 5 none 1 := ⟨q3_11, qs9, q1_2, q3_12, ⟨rfl, by decide +kernel, by decide +kernel, by decide +kernel⟩⟩
set_option maxHeartbeats 4000000 in
set_option maxRecDepth 100000 in
theorem k_X5_store_4 {X : JX VS} {ad : Nat → Nat} (h : OK X RX5 cX5_store rmX5_store) (hV : IsVill X.cI X.B ad) (hnL : X.nL = 5) {res : VS} (hE : EXv X cX5_store res) : ∀ (n : Nat) (x2 : Int32) (x3 : Int32) (S : VS), f_X5_store_4 n x2 x3 S = some res → J X 4 [(0, .ref (ad 22)), (2, .int x2), (3, .int x3)] [] S := by
  intro n
  induction n with
  | zero =>
    intro x2 x3 S hF
    rw [f_X5_store_4] at hF
    cases hF
  | succ n ih =>
    intro x2 x3 S hF
    rw [f_X5_store_4] at hF
    refine j_iload_n h 2 rfl rfl dX5_store_4 ?_
    refine j_iconst h (v := 2) (by decide) dX5_store_5 ?_
    refine j_icmp_ge h 53 (by decide) dX5_store_6 hF (fun hF => ?_) (fun hF => ?_)
    · refine j_aload_n h 0 rfl rfl dX5_store_53 ?_
      refine j_get h hV.2.2.2.2.1.o inX5 rfl 4 (by decide) rfl q1_125 rfl dX5_store_54 ?_
      refine j_iconst h (v := 3) (by decide) dX5_store_57 ?_
      refine j_dup2 h rfl rfl dX5_store_58 ?_
      obtain ⟨hb_1, hF⟩ := bnd_row hF
      refine ja_iald h (get := fun v => v) (put := fun _ v => v) (hV.1 18 (by decide)) hb_1 dX5_store_59 ?_
      refine j_iload_n h 1 rfl rfl dX5_store_60 ?_
      refine j_iadd h dX5_store_61 ?_
      obtain ⟨hb_2, hF⟩ := bnd_row hF
      refine ja_iast h (get := fun v => v) (put := fun _ v => v) (hV.1 18 (by decide)) hb_2 dX5_store_62 ?_
      refine j_letS hF (fun S_3 hF => ?_)
      cases hF
      exact hE _ _ dX5_store_63
    · refine j_aload_n h 0 rfl rfl dX5_store_9 ?_
      refine j_get h hV.2.2.2.2.1.o inX5 rfl 2 (by decide) rfl q1_121 rfl dX5_store_10 ?_
      refine j_iload_n h 2 rfl rfl dX5_store_13 ?_
      refine j_iload_n h 1 rfl rfl dX5_store_14 ?_
      obtain ⟨r_4, hr_4, hF⟩ := bind_row hF
      refine j_callVi h (st := []) (S' := S) (c_X0_canTake X.l X.D X.cI X.cZ X.cV hV S x3 x2 hr_4) rfl rfl q3_13 cw_X0_canTake hV.2.2.2.1 rfl rfl rfl ⟨rfl, rfl, Nat.le_of_ble_eq_true rfl, Nat.le_of_ble_eq_true rfl⟩ _ rfl (Nat.le_of_ble_eq_true rfl) dX5_store_15 ?_
      refine j_istore h hnL [(4, .int r_4), (0, .ref (ad 22)), (2, .int x2), (3, .int x3)] (by decide) rfl dX5_store_18 ?_
      refine j_aload_n h 1 rfl rfl dX5_store_20 ?_
      refine j_get h hV.2.2.2.2.1.o inX5 rfl 4 (by decide) rfl q1_125 rfl dX5_store_21 ?_
      refine j_iconst h (v := 2) (by decide) dX5_store_24 ?_
      refine j_dup2 h rfl rfl dX5_store_25 ?_
      obtain ⟨hb_5, hF⟩ := bnd_row hF
      refine ja_iald h (get := fun v => v) (put := fun _ v => v) (hV.1 18 (by decide)) hb_5 dX5_store_26 ?_
      refine j_iload h 0 rfl dX5_store_27 ?_
      refine j_aload_n h 1 rfl rfl dX5_store_29 ?_
      refine j_get h hV.2.2.2.2.1.o inX5 rfl 2 (by decide) rfl q1_121 rfl dX5_store_30 ?_
      refine j_iload_n h 3 rfl rfl dX5_store_33 ?_
      refine j_iload h 0 rfl dX5_store_34 ?_
      obtain ⟨r_6, hr_6, hF⟩ := bind_row hF
      refine j_callVi h (st := [.int r_4, .int (rd S 18 (2 : Int32)), .int (2 : Int32), .ref (ad 18)]) (S' := r_6.2) (c_X0_takeIn X.l X.D X.cI X.cZ X.cV hV S x3 r_4 hr_6) rfl rfl q3_17 cw_X0_takeIn hV.2.2.2.1 rfl rfl rfl ⟨rfl, rfl, Nat.le_of_ble_eq_true rfl, Nat.le_of_ble_eq_true rfl⟩ _ rfl (Nat.le_of_ble_eq_true rfl) dX5_store_36 ?_
      refine j_isub h dX5_store_39 ?_
      refine j_iadd h dX5_store_40 ?_
      obtain ⟨hb_7, hF⟩ := bnd_row hF
      refine ja_iast h (get := fun v => v) (put := fun _ v => v) (hV.1 18 (by decide)) hb_7 dX5_store_41 ?_
      refine j_letS hF (fun S_8 hF => ?_)
      refine j_iload_n h 2 rfl rfl dX5_store_42 ?_
      refine j_iload h 0 rfl dX5_store_43 ?_
      refine j_isub h dX5_store_45 ?_
      refine j_let hF (fun x_9 hF => ?_)
      refine j_istore_n h hnL [(2, .int x_9), (4, .int r_4), (0, .ref (ad 22)), (3, .int x3)] rfl (by decide) rfl dX5_store_46 ?_
      refine j_iincL hF (fun x_10 ex_10 hF => ?_)
      refine j_iinc h hnL 3 [(3, .int x_10), (2, .int x_9), (4, .int r_4), (0, .ref (ad 22))] rfl ex_10 (by decide) (by decide) rfl dX5_store_47 ?_
      refine j_goto h 4 (by decide) dX5_store_50 ?_
      exact j_sub [3, 1, 0] rfl (ih _ _ _ hF)
set_option maxHeartbeats 4000000 in
set_option maxRecDepth 100000 in
theorem k_X5_store {X : JX VS} {ad : Nat → Nat} (h : OK X RX5 cX5_store rmX5_store) (hV : IsVill X.cI X.B ad) (hnL : X.nL = 5) {res : VS} {S : VS} {p1 : Int32} (hE : EXv X cX5_store res) (hF : f_X5_store S p1 = some res) : J X 0 [(0, .ref (ad 22)), (1, .int p1)] [] S := by
  rw [f_X5_store] at hF
  refine j_iload_n h 1 rfl rfl dX5_store_0 ?_
  refine j_istore_n h hnL [(2, .int p1), (0, .ref (ad 22)), (1, .int p1)] rfl (by decide) rfl dX5_store_1 ?_
  refine j_iconst h (v := 0) (by decide) dX5_store_2 ?_
  refine j_istore_n h hnL [(3, .int (0 : Int32)), (2, .int p1), (0, .ref (ad 22)), (1, .int p1)] rfl (by decide) rfl dX5_store_3 ?_
  exact j_sub [2, 1, 0] rfl (k_X5_store_4 h hV hnL hE fuel _ _ _ hF)
theorem c_X5_store (l : Launch) (D : va_G) (cI cZ cV : ClassId) {B : VS → va_W} {ad : Nat → Nat} (hV : IsVill cI B ad) (S : VS) (p1 : Int32) {r : VS} (hF : f_X5_store S p1 = some r) : CTv l D (jtys cI cZ cV) yX5_store cX5_store 5 none rmX5_store B [.ref (ad 22), .int p1] S r := by
  refine CTv.of [(0, .ref (ad 22)), (1, .int p1)] rfl (Nat.le_of_ble_eq_true rfl) (by decide) ⟨rfl, rfl⟩ (fun X e1 e2 e3 e4 e5 e6 e7 h hE => ?_)
  subst e1; subst e2; subst e3; subst e4; subst e5; subst e6
  exact k_X5_store h hV e7 hE hF
abbrev rmX5_passHour : Room := { frames := 3, cells := 0, slots := 0, locals := 70 }
theorem cw_X5_passHour : CWv RX5 yX5_passHour cX5_passHour 4 none 0 := ⟨q2_190, qs4, q1_2, q2_191, ⟨rfl, by decide +kernel, by decide +kernel, by decide +kernel⟩⟩
set_option maxHeartbeats 4000000 in
set_option maxRecDepth 100000 in
theorem k_X5_passHour_88 {X : JX VS} {ad : Nat → Nat} (h : OK X RX5 cX5_passHour rmX5_passHour) (hV : IsVill X.cI X.B ad) (hnL : X.nL = 4) {res : VS} {S : VS} (hE : EXv X cX5_passHour res) (hF : f_X5_passHour_88 S = some res) : J X 88 [(0, .ref (ad 22))] [] S := by
  rw [f_X5_passHour_88] at hF
  refine j_aload_n h 0 rfl rfl dX5_passHour_88 ?_
  refine j_dup h rfl dX5_passHour_89 ?_
  refine j_get h hV.2.2.2.2.1.o inX5 rfl 9 (by decide) rfl q1_134 rfl dX5_passHour_90 ?_
  refine j_iconst h (v := 1) (by decide) dX5_passHour_93 ?_
  refine j_iadd h dX5_passHour_94 ?_
  refine j_put h (hV.2.2.2.2.2.1) inX5 tyX5_ok nmX5 rfl (by decide) rfl q1_134 (Nat.le_of_ble_eq_true rfl) dX5_passHour_95 ?_
  refine j_letS hF (fun S_15 hF => ?_)
  cases hF
  exact hE _ _ dX5_passHour_98
set_option maxHeartbeats 4000000 in
set_option maxRecDepth 100000 in
theorem k_X5_passHour {X : JX VS} {ad : Nat → Nat} (h : OK X RX5 cX5_passHour rmX5_passHour) (hV : IsVill X.cI X.B ad) (hnL : X.nL = 4) {res : VS} {S : VS} (hE : EXv X cX5_passHour res) (hF : f_X5_passHour S = some res) : J X 0 [(0, .ref (ad 22))] [] S := by
  rw [f_X5_passHour] at hF
  refine j_aload_n h 0 rfl rfl dX5_passHour_0 ?_
  refine j_aload_n h 0 rfl rfl dX5_passHour_1 ?_
  refine j_get h hV.2.2.2.2.1.o inX5 rfl 9 (by decide) rfl q1_134 rfl dX5_passHour_2 ?_
  obtain ⟨r_1, hr_1, hF⟩ := bind_row hF
  refine j_callVi h (st := []) (S' := S) (c_X5_supplyOf X.l X.D X.cI X.cZ X.cV hV S (S 22 3) hr_1) rfl rfl q2_192 cw_X5_supplyOf hV.2.2.2.2.1.o rfl rfl rfl ⟨rfl, rfl, Nat.le_of_ble_eq_true rfl, Nat.le_of_ble_eq_true rfl⟩ _ rfl (Nat.le_of_ble_eq_true rfl) dX5_passHour_5 ?_
  refine j_istore_n h hnL [(1, .int r_1), (0, .ref (ad 22))] rfl (by decide) rfl dX5_passHour_8 ?_
  refine j_iload_n h 0 rfl rfl dX5_passHour_9 ?_
  refine j_aload_n h 1 rfl rfl dX5_passHour_10 ?_
  refine j_get h hV.2.2.2.2.1.o inX5 rfl 2 (by decide) rfl q1_121 rfl dX5_passHour_11 ?_
  obtain ⟨r_2, hr_2, hF⟩ := bind_row hF
  refine j_callVi h (st := [.int r_1]) (S' := S) (c_X0_canGiveAll X.l X.D X.cI X.cZ X.cV hV S hr_2) rfl rfl q2_199 cw_X0_canGiveAll hV.2.2.2.1 rfl rfl rfl ⟨rfl, rfl, Nat.le_of_ble_eq_true rfl, Nat.le_of_ble_eq_true rfl⟩ _ rfl (Nat.le_of_ble_eq_true rfl) dX5_passHour_14 ?_
  refine j_iadd h dX5_passHour_17 ?_
  refine j_let hF (fun x_3 hF => ?_)
  refine j_istore_n h hnL [(2, .int x_3), (1, .int r_1), (0, .ref (ad 22))] rfl (by decide) rfl dX5_passHour_18 ?_
  refine j_aload_n h 2 rfl rfl dX5_passHour_19 ?_
  refine j_get h hV.2.2.2.2.1.o inX5 rfl 0 (by decide) rfl q1_117 rfl dX5_passHour_20 ?_
  refine j_aload_n h 2 rfl rfl dX5_passHour_23 ?_
  refine j_get h hV.2.2.2.2.1.o inX5 rfl 3 (by decide) rfl q1_123 rfl dX5_passHour_24 ?_
  refine j_iconst h (v := 0) (by decide) dX5_passHour_27 ?_
  obtain ⟨hb_4, hF⟩ := bnd_row hF
  refine ja_iald h (get := fun v => v) (put := fun _ v => v) (hV.1 17 (by decide)) hb_4 dX5_passHour_28 ?_
  obtain ⟨r_5, hr_5, hF⟩ := bind_row hF
  refine j_callVv h (st := []) (S' := r_5) (c_X2_wantAll X.l X.D X.cI X.cZ X.cV hV S (rd S 17 (0 : Int32)) hr_5) rfl rfl q2_203 cw_X2_wantAll hV.2.1.o rfl rfl rfl ⟨rfl, rfl, Nat.le_of_ble_eq_true rfl, Nat.le_of_ble_eq_true rfl⟩ _ rfl (Nat.le_of_ble_eq_true rfl) dX5_passHour_29 ?_
  refine j_aload_n h 2 rfl rfl dX5_passHour_32 ?_
  refine j_iload_n h 0 rfl rfl dX5_passHour_33 ?_
  obtain ⟨r_6, hr_6, hF⟩ := bind_row hF
  refine j_callVv h (st := []) (S' := r_6) (c_X5_shed X.l X.D X.cI X.cZ X.cV hV r_5 x_3 hr_6) rfl rfl q2_213 cw_X5_shed hV.2.2.2.2.1.o rfl rfl rfl ⟨rfl, rfl, Nat.le_of_ble_eq_true rfl, Nat.le_of_ble_eq_true rfl⟩ _ rfl (Nat.le_of_ble_eq_true rfl) dX5_passHour_34 ?_
  refine j_aload_n h 2 rfl rfl dX5_passHour_37 ?_
  refine j_iload_n h 0 rfl rfl dX5_passHour_38 ?_
  obtain ⟨r_7, hr_7, hF⟩ := bind_row hF
  refine j_callVi h (st := []) (S' := r_7.2) (c_X5_serve X.l X.D X.cI X.cZ X.cV hV r_6 x_3 hr_7) rfl rfl q2_229 cw_X5_serve hV.2.2.2.2.1.o rfl rfl rfl ⟨rfl, rfl, Nat.le_of_ble_eq_true rfl, Nat.le_of_ble_eq_true rfl⟩ _ rfl (Nat.le_of_ble_eq_true rfl) dX5_passHour_39 ?_
  refine j_istore_n h hnL [(3, .int r_7.1), (2, .int x_3), (1, .int r_1), (0, .ref (ad 22))] rfl (by decide) rfl dX5_passHour_42 ?_
  refine j_aload_n h 3 rfl rfl dX5_passHour_43 ?_
  refine j_get h hV.2.2.2.2.1.o inX5 rfl 4 (by decide) rfl q1_125 rfl dX5_passHour_44 ?_
  refine j_iconst h (v := 0) (by decide) dX5_passHour_47 ?_
  refine j_dup2 h rfl rfl dX5_passHour_48 ?_
  obtain ⟨hb_8, hF⟩ := bnd_row hF
  refine ja_iald h (get := fun v => v) (put := fun _ v => v) (hV.1 18 (by decide)) hb_8 dX5_passHour_49 ?_
  refine j_iload_n h 2 rfl rfl dX5_passHour_50 ?_
  refine j_iadd h dX5_passHour_51 ?_
  obtain ⟨hb_9, hF⟩ := bnd_row hF
  refine ja_iast h (get := fun v => v) (put := fun _ v => v) (hV.1 18 (by decide)) hb_9 dX5_passHour_52 ?_
  refine j_letS hF (fun S_10 hF => ?_)
  refine j_aload_n h 3 rfl rfl dX5_passHour_53 ?_
  refine j_get h hV.2.2.2.2.1.o inX5 rfl 4 (by decide) rfl q1_125 rfl dX5_passHour_54 ?_
  refine j_iconst h (v := 1) (by decide) dX5_passHour_57 ?_
  refine j_dup2 h rfl rfl dX5_passHour_58 ?_
  obtain ⟨hb_11, hF⟩ := bnd_row hF
  refine ja_iald h (get := fun v => v) (put := fun _ v => v) (hV.1 18 (by decide)) hb_11 dX5_passHour_59 ?_
  refine j_iload_n h 0 rfl rfl dX5_passHour_60 ?_
  refine j_iadd h dX5_passHour_61 ?_
  obtain ⟨hb_12, hF⟩ := bnd_row hF
  refine ja_iast h (get := fun v => v) (put := fun _ v => v) (hV.1 18 (by decide)) hb_12 dX5_passHour_62 ?_
  refine j_letS hF (fun S_13 hF => ?_)
  refine j_iload_n h 0 rfl rfl dX5_passHour_63 ?_
  refine j_iload_n h 2 rfl rfl dX5_passHour_64 ?_
  refine j_icmp_le h 81 (by decide) dX5_passHour_65 hF (fun hF => ?_) (fun hF => ?_)
  · refine j_aload_n h 3 rfl rfl dX5_passHour_81 ?_
    refine j_iload_n h 2 rfl rfl dX5_passHour_82 ?_
    refine j_iload_n h 0 rfl rfl dX5_passHour_83 ?_
    refine j_isub h dX5_passHour_84 ?_
    obtain ⟨r_14, hr_14, hF⟩ := bind_row hF
    refine j_callVv h (st := []) (S' := r_14) (c_X5_store X.l X.D X.cI X.cZ X.cV hV S_13 (r_1 - r_7.1) hr_14) rfl rfl q3_9 cw_X5_store hV.2.2.2.2.1.o rfl rfl rfl ⟨rfl, rfl, Nat.le_of_ble_eq_true rfl, Nat.le_of_ble_eq_true rfl⟩ _ rfl (Nat.le_of_ble_eq_true rfl) dX5_passHour_85 ?_
    exact j_sub [3] rfl (k_X5_passHour_88 h hV hnL hE hF)
  · refine j_aload_n h 3 rfl rfl dX5_passHour_68 ?_
    refine j_get h hV.2.2.2.2.1.o inX5 rfl 2 (by decide) rfl q1_121 rfl dX5_passHour_69 ?_
    refine j_iload_n h 0 rfl rfl dX5_passHour_72 ?_
    refine j_iload_n h 2 rfl rfl dX5_passHour_73 ?_
    refine j_isub h dX5_passHour_74 ?_
    obtain ⟨r_16, hr_16, hF⟩ := bind_row hF
    refine j_callVv h (st := []) (S' := r_16) (c_X0_give X.l X.D X.cI X.cZ X.cV hV S_13 (r_7.1 - r_1) hr_16) rfl rfl q3_5 cw_X0_give hV.2.2.2.1 rfl rfl rfl ⟨rfl, rfl, Nat.le_of_ble_eq_true rfl, Nat.le_of_ble_eq_true rfl⟩ _ rfl (Nat.le_of_ble_eq_true rfl) dX5_passHour_75 ?_
    refine j_goto h 88 (by decide) dX5_passHour_78 ?_
    exact j_sub [3] rfl (k_X5_passHour_88 h hV hnL hE hF)
theorem c_X5_passHour (l : Launch) (D : va_G) (cI cZ cV : ClassId) {B : VS → va_W} {ad : Nat → Nat} (hV : IsVill cI B ad) (S : VS) {r : VS} (hF : f_X5_passHour S = some r) : CTv l D (jtys cI cZ cV) yX5_passHour cX5_passHour 4 none rmX5_passHour B [.ref (ad 22)] S r := by
  refine CTv.of [(0, .ref (ad 22))] rfl (Nat.le_of_ble_eq_true rfl) (by decide) ⟨rfl, rfl⟩ (fun X e1 e2 e3 e4 e5 e6 e7 h hE => ?_)
  subst e1; subst e2; subst e3; subst e4; subst e5; subst e6
  exact k_X5_passHour h hV e7 hE hF
abbrev rmX5_passHours : Room := { frames := 4, cells := 0, slots := 0, locals := 93 }
theorem cw_X5_passHours : CWv RX5 yX5_passHours cX5_passHours 3 none 1 := ⟨q2_185, q2_186, q1_2, q2_187, ⟨rfl, by decide +kernel, by decide +kernel, by decide +kernel⟩⟩
set_option maxHeartbeats 4000000 in
set_option maxRecDepth 100000 in
theorem k_X5_passHours_2 {X : JX VS} {ad : Nat → Nat} (h : OK X RX5 cX5_passHours rmX5_passHours) (hV : IsVill X.cI X.B ad) (hnL : X.nL = 3) {res : VS} {x1 : Int32} (hE : EXv X cX5_passHours res) : ∀ (n : Nat) (x2 : Int32) (S : VS), f_X5_passHours_2 x1 n x2 S = some res → J X 2 [(0, .ref (ad 22)), (1, .int x1), (2, .int x2)] [] S := by
  intro n
  induction n with
  | zero =>
    intro x2 S hF
    rw [f_X5_passHours_2] at hF
    cases hF
  | succ n ih =>
    intro x2 S hF
    rw [f_X5_passHours_2] at hF
    refine j_iload_n h 2 rfl rfl dX5_passHours_2 ?_
    refine j_iload_n h 1 rfl rfl dX5_passHours_3 ?_
    refine j_icmp_ge h 17 (by decide) dX5_passHours_4 hF (fun hF => ?_) (fun hF => ?_)
    · cases hF
      exact hE _ _ dX5_passHours_17
    · refine j_aload_n h 0 rfl rfl dX5_passHours_7 ?_
      obtain ⟨r_1, hr_1, hF⟩ := bind_row hF
      refine j_callVv h (st := []) (S' := r_1) (c_X5_passHour X.l X.D X.cI X.cZ X.cV hV S hr_1) rfl rfl q2_188 cw_X5_passHour hV.2.2.2.2.1.o rfl rfl rfl ⟨rfl, rfl, Nat.le_of_ble_eq_true rfl, Nat.le_of_ble_eq_true rfl⟩ _ rfl (Nat.le_of_ble_eq_true rfl) dX5_passHours_8 ?_
      refine j_iincL hF (fun x_2 ex_2 hF => ?_)
      refine j_iinc h hnL 2 [(2, .int x_2), (0, .ref (ad 22)), (1, .int x1)] rfl ex_2 (by decide) (by decide) rfl dX5_passHours_11 ?_
      refine j_goto h 2 (by decide) dX5_passHours_14 ?_
      exact j_sub [1, 2, 0] rfl (ih _ _ hF)
set_option maxHeartbeats 4000000 in
set_option maxRecDepth 100000 in
theorem k_X5_passHours {X : JX VS} {ad : Nat → Nat} (h : OK X RX5 cX5_passHours rmX5_passHours) (hV : IsVill X.cI X.B ad) (hnL : X.nL = 3) {res : VS} {S : VS} {p1 : Int32} (hE : EXv X cX5_passHours res) (hF : f_X5_passHours S p1 = some res) : J X 0 [(0, .ref (ad 22)), (1, .int p1)] [] S := by
  rw [f_X5_passHours] at hF
  refine j_iconst h (v := 0) (by decide) dX5_passHours_0 ?_
  refine j_istore_n h hnL [(2, .int (0 : Int32)), (0, .ref (ad 22)), (1, .int p1)] rfl (by decide) rfl dX5_passHours_1 ?_
  exact j_sub [1, 2, 0] rfl (k_X5_passHours_2 h hV hnL hE fuel _ _ hF)
theorem c_X5_passHours (l : Launch) (D : va_G) (cI cZ cV : ClassId) {B : VS → va_W} {ad : Nat → Nat} (hV : IsVill cI B ad) (S : VS) (p1 : Int32) {r : VS} (hF : f_X5_passHours S p1 = some r) : CTv l D (jtys cI cZ cV) yX5_passHours cX5_passHours 3 none rmX5_passHours B [.ref (ad 22), .int p1] S r := by
  refine CTv.of [(0, .ref (ad 22)), (1, .int p1)] rfl (Nat.le_of_ble_eq_true rfl) (by decide) ⟨rfl, rfl⟩ (fun X e1 e2 e3 e4 e5 e6 e7 h hE => ?_)
  subst e1; subst e2; subst e3; subst e4; subst e5; subst e6
  exact k_X5_passHours h hV e7 hE hF
