abbrev rmX4_copy : Room := { frames := 1, cells := 0, slots := 0, locals := 26 }
theorem cw_X4_copy : CWv RX4 yX4_copy cX4_copy 2 none 1 := ⟨q2_21, q2_22, q1_4, q2_23, ⟨rfl, by decide +kernel, by decide +kernel, by decide +kernel⟩⟩
set_option maxHeartbeats 4000000 in
set_option maxRecDepth 100000 in
theorem k_X4_copy {X : JX PS} {AD : Nat → Nat → Nat} {i : Nat} {j : Nat} (h : OK X RX4 cX4_copy rmX4_copy) (hP : IsPool X.cI X.cZ X.cV X.B AD) (hi : i < 12) (hj : j < 12) (hnL : X.nL = 2) {res : PS} {S : PS} (hE : EXv X cX4_copy res) (hF : f_X4_copy i j S = some res) : J X 0 [(0, .ref (AD i 24)), (1, .ref (AD j 24))] [] S := by
  rw [f_X4_copy] at hF
  refine j_aload_n h 0 rfl rfl dX4_copy_0 ?_
  refine j_aload_n h 1 rfl rfl dX4_copy_1 ?_
  refine j_get h (hP.1 j hj).2.2.1.o inX4 rfl 0 (by decide) rfl q1_80 rfl dX4_copy_2 ?_
  refine j_put h ((hP.1 i hi).2.2.1) inX4 tyX4_ok nmX4 rfl (by decide) rfl q1_80 (Nat.le_of_ble_eq_true rfl) dX4_copy_5 ?_
  refine j_letS hF (fun S_1 hF => ?_)
  refine j_aload_n h 1 rfl rfl dX4_copy_8 ?_
  refine j_get h (hP.1 j hj).2.2.1.o inX4 rfl 1 (by decide) rfl q1_83 rfl dX4_copy_9 ?_
  refine j_iconst h (v := 0) (by decide) dX4_copy_12 ?_
  refine j_aload_n h 0 rfl rfl dX4_copy_13 ?_
  refine j_get h (hP.1 i hi).2.2.1.o inX4 rfl 1 (by decide) rfl q1_83 rfl dX4_copy_14 ?_
  refine j_iconst h (v := 0) (by decide) dX4_copy_17 ?_
  refine j_bipush h (v := 12) (by decide) dX4_copy_18 ?_
  refine j_copy h 0 0 12 ((hP.1 j hj).1 10 (by decide)).a ((hP.1 i hi).1 10 (by decide)) rfl rfl rfl (by decide) (by decide) (by decide) (by decide) (by decide) q2_24 ⟨Nat.le_of_ble_eq_true rfl, Nat.le_of_ble_eq_true rfl⟩ dX4_copy_20 ?_
  refine j_letS hF (fun S_2 hF => ?_)
  refine j_aload_n h 1 rfl rfl dX4_copy_23 ?_
  refine j_get h (hP.1 j hj).2.2.1.o inX4 rfl 2 (by decide) rfl q1_85 rfl dX4_copy_24 ?_
  refine j_iconst h (v := 0) (by decide) dX4_copy_27 ?_
  refine j_aload_n h 0 rfl rfl dX4_copy_28 ?_
  refine j_get h (hP.1 i hi).2.2.1.o inX4 rfl 2 (by decide) rfl q1_85 rfl dX4_copy_29 ?_
  refine j_iconst h (v := 0) (by decide) dX4_copy_32 ?_
  refine j_bipush h (v := 12) (by decide) dX4_copy_33 ?_
  refine j_copy h 0 0 12 ((hP.1 j hj).1 11 (by decide)).a ((hP.1 i hi).1 11 (by decide)) rfl rfl rfl (by decide) (by decide) (by decide) (by decide) (by decide) q2_24 ⟨Nat.le_of_ble_eq_true rfl, Nat.le_of_ble_eq_true rfl⟩ dX4_copy_35 ?_
  refine j_letS hF (fun S_3 hF => ?_)
  refine j_aload_n h 1 rfl rfl dX4_copy_38 ?_
  refine j_get h (hP.1 j hj).2.2.1.o inX4 rfl 3 (by decide) rfl q1_87 rfl dX4_copy_39 ?_
  refine j_iconst h (v := 0) (by decide) dX4_copy_42 ?_
  refine j_aload_n h 0 rfl rfl dX4_copy_43 ?_
  refine j_get h (hP.1 i hi).2.2.1.o inX4 rfl 3 (by decide) rfl q1_87 rfl dX4_copy_44 ?_
  refine j_iconst h (v := 0) (by decide) dX4_copy_47 ?_
  refine j_bipush h (v := 12) (by decide) dX4_copy_48 ?_
  refine j_copy h 0 0 12 ((hP.1 j hj).1 12 (by decide)).a ((hP.1 i hi).1 12 (by decide)) rfl rfl rfl (by decide) (by decide) (by decide) (by decide) (by decide) q2_24 ⟨Nat.le_of_ble_eq_true rfl, Nat.le_of_ble_eq_true rfl⟩ dX4_copy_50 ?_
  refine j_letS hF (fun S_4 hF => ?_)
  cases hF
  exact hE _ _ dX4_copy_53
theorem c_X4_copy (l : Launch) (D : va_G) (cI cZ cV : ClassId) {B : PS → va_W} {AD : Nat → Nat → Nat} (hP : IsPool cI cZ cV B AD) {i : Nat} {j : Nat} (hi : i < 12) (hj : j < 12) (S : PS) {r : PS} (hF : f_X4_copy i j S = some r) : CTv l D (jtys cI cZ cV) yX4_copy cX4_copy 2 none rmX4_copy B [.ref (AD i 24), .ref (AD j 24)] S r := by
  refine CTv.of [(0, .ref (AD i 24)), (1, .ref (AD j 24))] rfl (Nat.le_of_ble_eq_true rfl) (by decide) ⟨rfl, rfl⟩ (fun X e1 e2 e3 e4 e5 e6 e7 h hE => ?_)
  subst e1; subst e2; subst e3; subst e4; subst e5; subst e6
  exact k_X4_copy h hP hi hj e7 hE hF
abbrev rmX4_add : Room := { frames := 0, cells := 0, slots := 0, locals := 0 }
theorem cw_X4_add : CWv RX4 yX4_add cX4_add 4 none 3 := ⟨q2_160, q2_161, q1_4, q2_162, ⟨rfl, by decide +kernel, by decide +kernel, by decide +kernel⟩⟩
set_option maxHeartbeats 4000000 in
set_option maxRecDepth 100000 in
theorem k_X4_add {X : JX VS} {ad : Nat → Nat} (h : OK X RX4 cX4_add rmX4_add) (hV : IsVill X.cI X.B ad) (hnL : X.nL = 4) {res : VS} {S : VS} {p1 : Int32} {p2 : Int32} {p3 : Int32} (hE : EXv X cX4_add res) (hF : f_X4_add S p1 p2 p3 = some res) : J X 0 [(0, .ref (ad 24)), (1, .int p1), (2, .int p2), (3, .int p3)] [] S := by
  rw [f_X4_add] at hF
  refine j_aload_n h 0 rfl rfl dX4_add_0 ?_
  refine j_get h hV.2.2.1.o inX4 rfl 1 (by decide) rfl q1_83 rfl dX4_add_1 ?_
  refine j_aload_n h 0 rfl rfl dX4_add_4 ?_
  refine j_get h hV.2.2.1.o inX4 rfl 0 (by decide) rfl q1_80 rfl dX4_add_5 ?_
  refine j_iload_n h 1 rfl rfl dX4_add_8 ?_
  obtain ⟨hb_1, hF⟩ := bnd_row hF
  refine ja_iast h (get := fun v => v) (put := fun _ v => v) (hV.1 10 (by decide)) hb_1 dX4_add_9 ?_
  refine j_letS hF (fun S_2 hF => ?_)
  refine j_aload_n h 0 rfl rfl dX4_add_10 ?_
  refine j_get h hV.2.2.1.o inX4 rfl 2 (by decide) rfl q1_85 rfl dX4_add_11 ?_
  refine j_aload_n h 0 rfl rfl dX4_add_14 ?_
  refine j_get h hV.2.2.1.o inX4 rfl 0 (by decide) rfl q1_80 rfl dX4_add_15 ?_
  refine j_iload_n h 2 rfl rfl dX4_add_18 ?_
  obtain ⟨hb_3, hF⟩ := bnd_row hF
  refine ja_iast h (get := fun v => v) (put := fun _ v => v) (hV.1 11 (by decide)) hb_3 dX4_add_19 ?_
  refine j_letS hF (fun S_4 hF => ?_)
  refine j_aload_n h 0 rfl rfl dX4_add_20 ?_
  refine j_get h hV.2.2.1.o inX4 rfl 3 (by decide) rfl q1_87 rfl dX4_add_21 ?_
  refine j_aload_n h 0 rfl rfl dX4_add_24 ?_
  refine j_get h hV.2.2.1.o inX4 rfl 0 (by decide) rfl q1_80 rfl dX4_add_25 ?_
  refine j_iload_n h 3 rfl rfl dX4_add_28 ?_
  obtain ⟨hb_5, hF⟩ := bnd_row hF
  refine ja_iast h (get := fun v => v) (put := fun _ v => v) (hV.1 12 (by decide)) hb_5 dX4_add_29 ?_
  refine j_letS hF (fun S_6 hF => ?_)
  refine j_aload_n h 0 rfl rfl dX4_add_30 ?_
  refine j_dup h rfl dX4_add_31 ?_
  refine j_get h hV.2.2.1.o inX4 rfl 0 (by decide) rfl q1_80 rfl dX4_add_32 ?_
  refine j_iconst h (v := 1) (by decide) dX4_add_35 ?_
  refine j_iadd h dX4_add_36 ?_
  refine j_put h (hV.2.2.1) inX4 tyX4_ok nmX4 rfl (by decide) rfl q1_80 (Nat.le_of_ble_eq_true rfl) dX4_add_37 ?_
  refine j_letS hF (fun S_7 hF => ?_)
  cases hF
  exact hE _ _ dX4_add_40
theorem c_X4_add (l : Launch) (D : va_G) (cI cZ cV : ClassId) {B : VS → va_W} {ad : Nat → Nat} (hV : IsVill cI B ad) (S : VS) (p1 : Int32) (p2 : Int32) (p3 : Int32) {r : VS} (hF : f_X4_add S p1 p2 p3 = some r) : CTv l D (jtys cI cZ cV) yX4_add cX4_add 4 none rmX4_add B [.ref (ad 24), .int p1, .int p2, .int p3] S r := by
  refine CTv.of [(0, .ref (ad 24)), (1, .int p1), (2, .int p2), (3, .int p3)] rfl (Nat.le_of_ble_eq_true rfl) (by decide) ⟨rfl, rfl⟩ (fun X e1 e2 e3 e4 e5 e6 e7 h hE => ?_)
  subst e1; subst e2; subst e3; subst e4; subst e5; subst e6
  exact k_X4_add h hV e7 hE hF
abbrev rmX4_remove : Room := { frames := 0, cells := 0, slots := 0, locals := 0 }
theorem cw_X4_remove : CWv RX4 yX4_remove cX4_remove 3 none 1 := ⟨q2_148, q2_149, q1_4, q2_150, ⟨rfl, by decide +kernel, by decide +kernel, by decide +kernel⟩⟩
set_option maxHeartbeats 4000000 in
set_option maxRecDepth 100000 in
theorem k_X4_remove_12 {X : JX VS} {ad : Nat → Nat} (h : OK X RX4 cX4_remove rmX4_remove) (hV : IsVill X.cI X.B ad) (hnL : X.nL = 3) {res : VS} (hE : EXv X cX4_remove res) : ∀ (n : Nat) (x2 : Int32) (S : VS), f_X4_remove_12 n x2 S = some res → J X 12 [(0, .ref (ad 24)), (2, .int x2)] [] S := by
  intro n
  induction n with
  | zero =>
    intro x2 S hF
    rw [f_X4_remove_12] at hF
    cases hF
  | succ n ih =>
    intro x2 S hF
    rw [f_X4_remove_12] at hF
    refine j_iload_n h 1 rfl rfl dX4_remove_12 ?_
    refine j_aload_n h 0 rfl rfl dX4_remove_13 ?_
    refine j_get h hV.2.2.1.o inX4 rfl 0 (by decide) rfl q1_80 rfl dX4_remove_14 ?_
    refine j_icmp_ge h 68 (by decide) dX4_remove_17 hF (fun hF => ?_) (fun hF => ?_)
    · cases hF
      exact hE _ _ dX4_remove_68
    · refine j_aload_n h 0 rfl rfl dX4_remove_20 ?_
      refine j_get h hV.2.2.1.o inX4 rfl 1 (by decide) rfl q1_83 rfl dX4_remove_21 ?_
      refine j_iload_n h 1 rfl rfl dX4_remove_24 ?_
      refine j_aload_n h 0 rfl rfl dX4_remove_25 ?_
      refine j_get h hV.2.2.1.o inX4 rfl 1 (by decide) rfl q1_83 rfl dX4_remove_26 ?_
      refine j_iload_n h 1 rfl rfl dX4_remove_29 ?_
      refine j_iconst h (v := 1) (by decide) dX4_remove_30 ?_
      refine j_iadd h dX4_remove_31 ?_
      obtain ⟨hb_2, hF⟩ := bnd_row hF
      refine ja_iald h (get := fun v => v) (put := fun _ v => v) (hV.1 10 (by decide)) hb_2 dX4_remove_32 ?_
      obtain ⟨hb_3, hF⟩ := bnd_row hF
      refine ja_iast h (get := fun v => v) (put := fun _ v => v) (hV.1 10 (by decide)) hb_3 dX4_remove_33 ?_
      refine j_letS hF (fun S_4 hF => ?_)
      refine j_aload_n h 0 rfl rfl dX4_remove_34 ?_
      refine j_get h hV.2.2.1.o inX4 rfl 2 (by decide) rfl q1_85 rfl dX4_remove_35 ?_
      refine j_iload_n h 1 rfl rfl dX4_remove_38 ?_
      refine j_aload_n h 0 rfl rfl dX4_remove_39 ?_
      refine j_get h hV.2.2.1.o inX4 rfl 2 (by decide) rfl q1_85 rfl dX4_remove_40 ?_
      refine j_iload_n h 1 rfl rfl dX4_remove_43 ?_
      refine j_iconst h (v := 1) (by decide) dX4_remove_44 ?_
      refine j_iadd h dX4_remove_45 ?_
      obtain ⟨hb_5, hF⟩ := bnd_row hF
      refine ja_iald h (get := fun v => v) (put := fun _ v => v) (hV.1 11 (by decide)) hb_5 dX4_remove_46 ?_
      obtain ⟨hb_6, hF⟩ := bnd_row hF
      refine ja_iast h (get := fun v => v) (put := fun _ v => v) (hV.1 11 (by decide)) hb_6 dX4_remove_47 ?_
      refine j_letS hF (fun S_7 hF => ?_)
      refine j_aload_n h 0 rfl rfl dX4_remove_48 ?_
      refine j_get h hV.2.2.1.o inX4 rfl 3 (by decide) rfl q1_87 rfl dX4_remove_49 ?_
      refine j_iload_n h 1 rfl rfl dX4_remove_52 ?_
      refine j_aload_n h 0 rfl rfl dX4_remove_53 ?_
      refine j_get h hV.2.2.1.o inX4 rfl 3 (by decide) rfl q1_87 rfl dX4_remove_54 ?_
      refine j_iload_n h 1 rfl rfl dX4_remove_57 ?_
      refine j_iconst h (v := 1) (by decide) dX4_remove_58 ?_
      refine j_iadd h dX4_remove_59 ?_
      obtain ⟨hb_8, hF⟩ := bnd_row hF
      refine ja_iald h (get := fun v => v) (put := fun _ v => v) (hV.1 12 (by decide)) hb_8 dX4_remove_60 ?_
      obtain ⟨hb_9, hF⟩ := bnd_row hF
      refine ja_iast h (get := fun v => v) (put := fun _ v => v) (hV.1 12 (by decide)) hb_9 dX4_remove_61 ?_
      refine j_letS hF (fun S_10 hF => ?_)
      refine j_iincL hF (fun x_11 ex_11 hF => ?_)
      refine j_iinc h hnL 1 [(2, .int x_11), (0, .ref (ad 24))] rfl ex_11 (by decide) (by decide) rfl dX4_remove_62 ?_
      refine j_goto h 12 (by decide) dX4_remove_65 ?_
      exact j_sub [1, 0] rfl (ih _ _ hF)
set_option maxHeartbeats 4000000 in
set_option maxRecDepth 100000 in
theorem k_X4_remove {X : JX VS} {ad : Nat → Nat} (h : OK X RX4 cX4_remove rmX4_remove) (hV : IsVill X.cI X.B ad) (hnL : X.nL = 3) {res : VS} {S : VS} {p1 : Int32} (hE : EXv X cX4_remove res) (hF : f_X4_remove S p1 = some res) : J X 0 [(0, .ref (ad 24)), (1, .int p1)] [] S := by
  rw [f_X4_remove] at hF
  refine j_aload_n h 0 rfl rfl dX4_remove_0 ?_
  refine j_dup h rfl dX4_remove_1 ?_
  refine j_get h hV.2.2.1.o inX4 rfl 0 (by decide) rfl q1_80 rfl dX4_remove_2 ?_
  refine j_iconst h (v := 1) (by decide) dX4_remove_5 ?_
  refine j_isub h dX4_remove_6 ?_
  refine j_put h (hV.2.2.1) inX4 tyX4_ok nmX4 rfl (by decide) rfl q1_80 (Nat.le_of_ble_eq_true rfl) dX4_remove_7 ?_
  refine j_letS hF (fun S_1 hF => ?_)
  refine j_iload_n h 1 rfl rfl dX4_remove_10 ?_
  refine j_istore_n h hnL [(2, .int p1), (0, .ref (ad 24)), (1, .int p1)] rfl (by decide) rfl dX4_remove_11 ?_
  exact j_sub [1, 0] rfl (k_X4_remove_12 h hV hnL hE fuel _ _ hF)
theorem c_X4_remove (l : Launch) (D : va_G) (cI cZ cV : ClassId) {B : VS → va_W} {ad : Nat → Nat} (hV : IsVill cI B ad) (S : VS) (p1 : Int32) {r : VS} (hF : f_X4_remove S p1 = some r) : CTv l D (jtys cI cZ cV) yX4_remove cX4_remove 3 none rmX4_remove B [.ref (ad 24), .int p1] S r := by
  refine CTv.of [(0, .ref (ad 24)), (1, .int p1)] rfl (Nat.le_of_ble_eq_true rfl) (by decide) ⟨rfl, rfl⟩ (fun X e1 e2 e3 e4 e5 e6 e7 h hE => ?_)
  subst e1; subst e2; subst e3; subst e4; subst e5; subst e6
  exact k_X4_remove h hV e7 hE hF
abbrev rmX4_told : Room := { frames := 0, cells := 0, slots := 0, locals := 0 }
theorem cw_X4_told : CWv RX4 yX4_told cX4_told 3 (some .int) 2 := ⟨q3_43, q3_44, q1_4, q3_45, ⟨rfl, by decide +kernel, by decide +kernel, by decide +kernel⟩⟩
set_option maxHeartbeats 4000000 in
set_option maxRecDepth 100000 in
theorem k_X4_told {X : JX VS} {ad : Nat → Nat} (h : OK X RX4 cX4_told rmX4_told) (hV : IsVill X.cI X.B ad) (hnL : X.nL = 3) {res : Int32} {S : VS} {p1 : Int32} {p2 : Int32} (hE : EXi X cX4_told res S) (hF : f_X4_told S p1 p2 = some res) : J X 0 [(0, .ref (ad 24)), (1, .int p1), (2, .int p2)] [] S := by
  rw [f_X4_told] at hF
  refine j_iload_n h 2 rfl rfl dX4_told_0 ?_
  refine j_case hF (fun g_1 hF => ?_) (fun g_1 hF => ?_)
  · refine j_lookup h (27) 28 (by decide) (by rw [g_1]; decide) (by decide) dX4_told_1 ?_
    refine j_aload_n h 0 rfl rfl dX4_told_28 ?_
    refine j_get h hV.2.2.1.o inX4 rfl 1 (by decide) rfl q1_83 rfl dX4_told_29 ?_
    refine j_iload_n h 1 rfl rfl dX4_told_32 ?_
    obtain ⟨hb_2, hF⟩ := bnd_row hF
    refine ja_iald h (get := fun v => v) (put := fun _ v => v) (hV.1 10 (by decide)) hb_2 dX4_told_33 ?_
    cases hF
    exact hE _ _ dX4_told_34
  · have g_1 := sw_ne g_1 (n := 0) (by decide)
    refine j_case hF (fun g_3 hF => ?_) (fun g_3 hF => ?_)
    · refine j_lookup h (34) 35 (by decide) (by rw [g_3]; decide) (by decide) dX4_told_1 ?_
      refine j_aload_n h 0 rfl rfl dX4_told_35 ?_
      refine j_get h hV.2.2.1.o inX4 rfl 2 (by decide) rfl q1_85 rfl dX4_told_36 ?_
      refine j_iload_n h 1 rfl rfl dX4_told_39 ?_
      obtain ⟨hb_4, hF⟩ := bnd_row hF
      refine ja_iald h (get := fun v => v) (put := fun _ v => v) (hV.1 11 (by decide)) hb_4 dX4_told_40 ?_
      cases hF
      exact hE _ _ dX4_told_41
    · have g_3 := sw_ne g_3 (n := 1) (by decide)
      refine j_lookup h (41) 42 (by decide) (by show Op.lookupswitch.offset [(0, 27), (1, 34)] (41) _ = (41); simp only [Op.lookupswitch.offset_cons, Op.lookupswitch.offset_nil]; rw [if_neg (Ne.symm g_1), if_neg (Ne.symm g_3)]) (by decide) dX4_told_1 ?_
      refine j_aload_n h 0 rfl rfl dX4_told_42 ?_
      refine j_get h hV.2.2.1.o inX4 rfl 3 (by decide) rfl q1_87 rfl dX4_told_43 ?_
      refine j_iload_n h 1 rfl rfl dX4_told_46 ?_
      obtain ⟨hb_5, hF⟩ := bnd_row hF
      refine ja_iald h (get := fun v => v) (put := fun _ v => v) (hV.1 12 (by decide)) hb_5 dX4_told_47 ?_
      cases hF
      exact hE _ _ dX4_told_48
theorem c_X4_told (l : Launch) (D : va_G) (cI cZ cV : ClassId) {B : VS → va_W} {ad : Nat → Nat} (hV : IsVill cI B ad) (S : VS) (p1 : Int32) (p2 : Int32) {r : Int32} (hF : f_X4_told S p1 p2 = some r) : CTi l D (jtys cI cZ cV) yX4_told cX4_told 3 (some .int) rmX4_told B [.ref (ad 24), .int p1, .int p2] S r S := by
  refine CTi.of [(0, .ref (ad 24)), (1, .int p1), (2, .int p2)] rfl (Nat.le_of_ble_eq_true rfl) (by decide) ⟨rfl, rfl⟩ (fun X e1 e2 e3 e4 e5 e6 e7 h hE => ?_)
  subst e1; subst e2; subst e3; subst e4; subst e5; subst e6
  exact k_X4_told h hV e7 hE hF
abbrev rmX4_sumOwed : Room := { frames := 0, cells := 0, slots := 0, locals := 0 }
theorem cw_X4_sumOwed : CWv RX4 yX4_sumOwed cX4_sumOwed 5 (some .int) 2 := ⟨q2_137, qs2, q1_4, q2_138, ⟨rfl, by decide +kernel, by decide +kernel, by decide +kernel⟩⟩
set_option maxHeartbeats 4000000 in
set_option maxRecDepth 100000 in
theorem k_X4_sumOwed_34 {X : JX VS} {ad : Nat → Nat} {k1 : Nat} (h : OK X RX4 cX4_sumOwed rmX4_sumOwed) (hV : IsVill X.cI X.B ad) (h_k1 : k1 < 22) (hnL : X.nL = 5) {res : Int32} {S : VS} {x2 : Int32} {x4 : Int32} {s0 : Int32} {s1 : Int32} {K5 : Int32 → Int32 → Option (Int32)} (hK5 : ∀ (x3 : Int32) (x4 : Int32), K5 x3 x4 = some res → J X 5 [(0, .ref (ad 24)), (1, .ref (ad k1)), (2, .int x2), (3, .int x3), (4, .int x4)] [] S) (hE : EXi X cX4_sumOwed res S) (hF : f_X4_sumOwed_34 K5 k1 S x2 x4 s0 s1 = some res) : J X 34 [(0, .ref (ad 24)), (1, .ref (ad k1)), (2, .int x2), (4, .int x4)] [.int s0, .int s1] S := by
  rw [f_X4_sumOwed_34] at hF
  refine j_iadd h dX4_sumOwed_34 ?_
  refine j_let hF (fun x_3 hF => ?_)
  refine j_istore_n h hnL [(3, .int x_3), (0, .ref (ad 24)), (1, .ref (ad k1)), (2, .int x2), (4, .int x4)] rfl (by decide) rfl dX4_sumOwed_35 ?_
  refine j_iincL hF (fun x_4 ex_4 hF => ?_)
  refine j_iinc h hnL 4 [(4, .int x_4), (3, .int x_3), (0, .ref (ad 24)), (1, .ref (ad k1)), (2, .int x2)] rfl ex_4 (by decide) (by decide) rfl dX4_sumOwed_36 ?_
  refine j_goto h 5 (by decide) dX4_sumOwed_39 ?_
  exact j_sub [2, 3, 4, 1, 0] rfl (hK5 _ _ hF)
set_option maxHeartbeats 4000000 in
set_option maxRecDepth 100000 in
theorem k_X4_sumOwed_5 {X : JX VS} {ad : Nat → Nat} {k1 : Nat} (h : OK X RX4 cX4_sumOwed rmX4_sumOwed) (hV : IsVill X.cI X.B ad) (h_k1 : k1 < 22) (hnL : X.nL = 5) {res : Int32} {S : VS} {x2 : Int32} (hE : EXi X cX4_sumOwed res S) : ∀ (n : Nat) (x3 : Int32) (x4 : Int32), f_X4_sumOwed_5 k1 S x2 n x3 x4 = some res → J X 5 [(0, .ref (ad 24)), (1, .ref (ad k1)), (2, .int x2), (3, .int x3), (4, .int x4)] [] S := by
  intro n
  induction n with
  | zero =>
    intro x3 x4 hF
    rw [f_X4_sumOwed_5] at hF
    cases hF
  | succ n ih =>
    intro x3 x4 hF
    rw [f_X4_sumOwed_5] at hF
    refine j_iload h 4 rfl dX4_sumOwed_5 ?_
    refine j_aload_n h 0 rfl rfl dX4_sumOwed_7 ?_
    refine j_get h hV.2.2.1.o inX4 rfl 0 (by decide) rfl q1_80 rfl dX4_sumOwed_8 ?_
    refine j_icmp_ge h 42 (by decide) dX4_sumOwed_11 hF (fun hF => ?_) (fun hF => ?_)
    · refine j_iload_n h 3 rfl rfl dX4_sumOwed_42 ?_
      cases hF
      exact hE _ _ dX4_sumOwed_43
    · refine j_iload_n h 3 rfl rfl dX4_sumOwed_14 ?_
      refine j_aload_n h 1 rfl rfl dX4_sumOwed_15 ?_
      refine j_iload h 4 rfl dX4_sumOwed_16 ?_
      obtain ⟨hb_1, hF⟩ := bnd_row hF
      refine ja_iald h (get := fun v => v) (put := fun _ v => v) (hV.1 k1 h_k1) hb_1 dX4_sumOwed_18 ?_
      refine j_iload_n h 2 rfl rfl dX4_sumOwed_19 ?_
      refine j_icmp_ne h 33 (by decide) dX4_sumOwed_20 hF (fun hF => ?_) (fun hF => ?_)
      · refine j_aload_n h 0 rfl rfl dX4_sumOwed_23 ?_
        refine j_get h hV.2.2.1.o inX4 rfl 3 (by decide) rfl q1_87 rfl dX4_sumOwed_24 ?_
        refine j_iload h 4 rfl dX4_sumOwed_27 ?_
        obtain ⟨hb_2, hF⟩ := bnd_row hF
        refine ja_iald h (get := fun v => v) (put := fun _ v => v) (hV.1 12 (by decide)) hb_2 dX4_sumOwed_29 ?_
        refine j_goto h 34 (by decide) dX4_sumOwed_30 ?_
        exact j_sub [0, 1, 2, 4] rfl (k_X4_sumOwed_34 h hV h_k1 hnL ih hE hF)
      · refine j_iconst h (v := 0) (by decide) dX4_sumOwed_33 ?_
        exact j_sub [0, 1, 2, 4] rfl (k_X4_sumOwed_34 h hV h_k1 hnL ih hE hF)
set_option maxHeartbeats 4000000 in
set_option maxRecDepth 100000 in
theorem k_X4_sumOwed {X : JX VS} {ad : Nat → Nat} {k1 : Nat} (h : OK X RX4 cX4_sumOwed rmX4_sumOwed) (hV : IsVill X.cI X.B ad) (h_k1 : k1 < 22) (hnL : X.nL = 5) {res : Int32} {S : VS} {p2 : Int32} (hE : EXi X cX4_sumOwed res S) (hF : f_X4_sumOwed k1 S p2 = some res) : J X 0 [(0, .ref (ad 24)), (1, .ref (ad k1)), (2, .int p2)] [] S := by
  rw [f_X4_sumOwed] at hF
  refine j_iconst h (v := 0) (by decide) dX4_sumOwed_0 ?_
  refine j_istore_n h hnL [(3, .int (0 : Int32)), (0, .ref (ad 24)), (1, .ref (ad k1)), (2, .int p2)] rfl (by decide) rfl dX4_sumOwed_1 ?_
  refine j_iconst h (v := 0) (by decide) dX4_sumOwed_2 ?_
  refine j_istore h hnL [(4, .int (0 : Int32)), (3, .int (0 : Int32)), (0, .ref (ad 24)), (1, .ref (ad k1)), (2, .int p2)] (by decide) rfl dX4_sumOwed_3 ?_
  exact j_sub [2, 3, 4, 1, 0] rfl (k_X4_sumOwed_5 h hV h_k1 hnL hE fuel _ _ hF)
theorem c_X4_sumOwed (l : Launch) (D : va_G) (cI cZ cV : ClassId) {B : VS → va_W} {ad : Nat → Nat} (hV : IsVill cI B ad) {k1 : Nat} (h_k1 : k1 < 22) (S : VS) (p2 : Int32) {r : Int32} (hF : f_X4_sumOwed k1 S p2 = some r) : CTi l D (jtys cI cZ cV) yX4_sumOwed cX4_sumOwed 5 (some .int) rmX4_sumOwed B [.ref (ad 24), .ref (ad k1), .int p2] S r S := by
  refine CTi.of [(0, .ref (ad 24)), (1, .ref (ad k1)), (2, .int p2)] rfl (Nat.le_of_ble_eq_true rfl) (by decide) ⟨rfl, rfl⟩ (fun X e1 e2 e3 e4 e5 e6 e7 h hE => ?_)
  subst e1; subst e2; subst e3; subst e4; subst e5; subst e6
  exact k_X4_sumOwed h hV h_k1 e7 hE hF
abbrev rmX4_owedBy : Room := { frames := 1, cells := 0, slots := 0, locals := 24 }
theorem cw_X4_owedBy : CWv RX4 yX4_owedBy cX4_owedBy 2 (some .int) 1 := ⟨q2_132, q2_133, q1_4, q2_134, ⟨rfl, by decide +kernel, by decide +kernel, by decide +kernel⟩⟩
set_option maxHeartbeats 4000000 in
set_option maxRecDepth 100000 in
theorem k_X4_owedBy {X : JX VS} {ad : Nat → Nat} (h : OK X RX4 cX4_owedBy rmX4_owedBy) (hV : IsVill X.cI X.B ad) (hnL : X.nL = 2) {res : Int32} {S : VS} {p1 : Int32} (hE : EXi X cX4_owedBy res S) (hF : f_X4_owedBy S p1 = some res) : J X 0 [(0, .ref (ad 24)), (1, .int p1)] [] S := by
  rw [f_X4_owedBy] at hF
  refine j_aload_n h 0 rfl rfl dX4_owedBy_0 ?_
  refine j_aload_n h 0 rfl rfl dX4_owedBy_1 ?_
  refine j_get h hV.2.2.1.o inX4 rfl 2 (by decide) rfl q1_85 rfl dX4_owedBy_2 ?_
  refine j_iload_n h 1 rfl rfl dX4_owedBy_5 ?_
  obtain ⟨r_1, hr_1, hF⟩ := bind_row hF
  refine j_callVi h (st := []) (S' := S) (c_X4_sumOwed X.l X.D X.cI X.cZ X.cV hV (by decide) S p1 hr_1) rfl rfl q2_135 cw_X4_sumOwed hV.2.2.1.o rfl rfl rfl ⟨rfl, rfl, Nat.le_of_ble_eq_true rfl, Nat.le_of_ble_eq_true rfl⟩ _ rfl (Nat.le_of_ble_eq_true rfl) dX4_owedBy_6 ?_
  cases hF
  exact hE _ _ dX4_owedBy_9
theorem c_X4_owedBy (l : Launch) (D : va_G) (cI cZ cV : ClassId) {B : VS → va_W} {ad : Nat → Nat} (hV : IsVill cI B ad) (S : VS) (p1 : Int32) {r : Int32} (hF : f_X4_owedBy S p1 = some r) : CTi l D (jtys cI cZ cV) yX4_owedBy cX4_owedBy 2 (some .int) rmX4_owedBy B [.ref (ad 24), .int p1] S r S := by
  refine CTi.of [(0, .ref (ad 24)), (1, .int p1)] rfl (Nat.le_of_ble_eq_true rfl) (by decide) ⟨rfl, rfl⟩ (fun X e1 e2 e3 e4 e5 e6 e7 h hE => ?_)
  subst e1; subst e2; subst e3; subst e4; subst e5; subst e6
  exact k_X4_owedBy h hV e7 hE hF
abbrev rmX4_owedTo : Room := { frames := 1, cells := 0, slots := 0, locals := 24 }
theorem cw_X4_owedTo : CWv RX4 yX4_owedTo cX4_owedTo 2 (some .int) 1 := ⟨q3_31, q3_32, q1_4, q3_33, ⟨rfl, by decide +kernel, by decide +kernel, by decide +kernel⟩⟩
set_option maxHeartbeats 4000000 in
set_option maxRecDepth 100000 in
theorem k_X4_owedTo {X : JX VS} {ad : Nat → Nat} (h : OK X RX4 cX4_owedTo rmX4_owedTo) (hV : IsVill X.cI X.B ad) (hnL : X.nL = 2) {res : Int32} {S : VS} {p1 : Int32} (hE : EXi X cX4_owedTo res S) (hF : f_X4_owedTo S p1 = some res) : J X 0 [(0, .ref (ad 24)), (1, .int p1)] [] S := by
  rw [f_X4_owedTo] at hF
  refine j_aload_n h 0 rfl rfl dX4_owedTo_0 ?_
  refine j_aload_n h 0 rfl rfl dX4_owedTo_1 ?_
  refine j_get h hV.2.2.1.o inX4 rfl 1 (by decide) rfl q1_83 rfl dX4_owedTo_2 ?_
  refine j_iload_n h 1 rfl rfl dX4_owedTo_5 ?_
  obtain ⟨r_1, hr_1, hF⟩ := bind_row hF
  refine j_callVi h (st := []) (S' := S) (c_X4_sumOwed X.l X.D X.cI X.cZ X.cV hV (by decide) S p1 hr_1) rfl rfl q2_135 cw_X4_sumOwed hV.2.2.1.o rfl rfl rfl ⟨rfl, rfl, Nat.le_of_ble_eq_true rfl, Nat.le_of_ble_eq_true rfl⟩ _ rfl (Nat.le_of_ble_eq_true rfl) dX4_owedTo_6 ?_
  cases hF
  exact hE _ _ dX4_owedTo_9
theorem c_X4_owedTo (l : Launch) (D : va_G) (cI cZ cV : ClassId) {B : VS → va_W} {ad : Nat → Nat} (hV : IsVill cI B ad) (S : VS) (p1 : Int32) {r : Int32} (hF : f_X4_owedTo S p1 = some r) : CTi l D (jtys cI cZ cV) yX4_owedTo cX4_owedTo 2 (some .int) rmX4_owedTo B [.ref (ad 24), .int p1] S r S := by
  refine CTi.of [(0, .ref (ad 24)), (1, .int p1)] rfl (Nat.le_of_ble_eq_true rfl) (by decide) ⟨rfl, rfl⟩ (fun X e1 e2 e3 e4 e5 e6 e7 h hE => ?_)
  subst e1; subst e2; subst e3; subst e4; subst e5; subst e6
  exact k_X4_owedTo h hV e7 hE hF
abbrev rmX4_removePaid : Room := { frames := 1, cells := 0, slots := 0, locals := 22 }
theorem cw_X4_removePaid : CWv RX4 yX4_removePaid cX4_removePaid 2 none 0 := ⟨q2_144, q2_145, q1_4, q2_146, ⟨rfl, by decide +kernel, by decide +kernel, by decide +kernel⟩⟩
set_option maxHeartbeats 4000000 in
set_option maxRecDepth 100000 in
theorem k_X4_removePaid_25 {X : JX VS} {ad : Nat → Nat} (h : OK X RX4 cX4_removePaid rmX4_removePaid) (hV : IsVill X.cI X.B ad) (hnL : X.nL = 2) {res : VS} {S : VS} {x1 : Int32} {K7 : Int32 → VS → Option (VS)} (hK7 : ∀ (x1 : Int32) (S : VS), K7 x1 S = some res → J X 7 [(0, .ref (ad 24)), (1, .int x1)] [] S) (hE : EXv X cX4_removePaid res) (hF : f_X4_removePaid_25 K7 S x1 = some res) : J X 25 [(0, .ref (ad 24)), (1, .int x1)] [] S := by
  rw [f_X4_removePaid_25] at hF
  refine j_iincL hF (fun x_3 ex_3 hF => ?_)
  refine j_iinc h hnL 1 [(1, .int x_3), (0, .ref (ad 24))] rfl ex_3 (by decide) (by decide) rfl dX4_removePaid_25 ?_
  refine j_goto h 7 (by decide) dX4_removePaid_28 ?_
  exact j_sub [1, 0] rfl (hK7 _ _ hF)
set_option maxHeartbeats 4000000 in
set_option maxRecDepth 100000 in
theorem k_X4_removePaid_7 {X : JX VS} {ad : Nat → Nat} (h : OK X RX4 cX4_removePaid rmX4_removePaid) (hV : IsVill X.cI X.B ad) (hnL : X.nL = 2) {res : VS} (hE : EXv X cX4_removePaid res) : ∀ (n : Nat) (x1 : Int32) (S : VS), f_X4_removePaid_7 n x1 S = some res → J X 7 [(0, .ref (ad 24)), (1, .int x1)] [] S := by
  intro n
  induction n with
  | zero =>
    intro x1 S hF
    rw [f_X4_removePaid_7] at hF
    cases hF
  | succ n ih =>
    intro x1 S hF
    rw [f_X4_removePaid_7] at hF
    refine j_iload_n h 1 rfl rfl dX4_removePaid_7 ?_
    refine j_if_lt h 31 (by decide) dX4_removePaid_8 hF (fun hF => ?_) (fun hF => ?_)
    · cases hF
      exact hE _ _ dX4_removePaid_31
    · refine j_aload_n h 0 rfl rfl dX4_removePaid_11 ?_
      refine j_get h hV.2.2.1.o inX4 rfl 3 (by decide) rfl q1_87 rfl dX4_removePaid_12 ?_
      refine j_iload_n h 1 rfl rfl dX4_removePaid_15 ?_
      obtain ⟨hb_2, hF⟩ := bnd_row hF
      refine ja_iald h (get := fun v => v) (put := fun _ v => v) (hV.1 12 (by decide)) hb_2 dX4_removePaid_16 ?_
      refine j_if_gt h 25 (by decide) dX4_removePaid_17 hF (fun hF => ?_) (fun hF => ?_)
      · exact j_sub [0, 1] rfl (k_X4_removePaid_25 h hV hnL ih hE hF)
      · refine j_aload_n h 0 rfl rfl dX4_removePaid_20 ?_
        refine j_iload_n h 1 rfl rfl dX4_removePaid_21 ?_
        obtain ⟨r_4, hr_4, hF⟩ := bind_row hF
        refine j_callVv h (st := []) (S' := r_4) (c_X4_remove X.l X.D X.cI X.cZ X.cV hV S x1 hr_4) rfl rfl q2_147 cw_X4_remove hV.2.2.1.o rfl rfl rfl ⟨rfl, rfl, Nat.le_of_ble_eq_true rfl, Nat.le_of_ble_eq_true rfl⟩ _ rfl (Nat.le_of_ble_eq_true rfl) dX4_removePaid_22 ?_
        exact j_sub [0, 1] rfl (k_X4_removePaid_25 h hV hnL ih hE hF)
set_option maxHeartbeats 4000000 in
set_option maxRecDepth 100000 in
theorem k_X4_removePaid {X : JX VS} {ad : Nat → Nat} (h : OK X RX4 cX4_removePaid rmX4_removePaid) (hV : IsVill X.cI X.B ad) (hnL : X.nL = 2) {res : VS} {S : VS} (hE : EXv X cX4_removePaid res) (hF : f_X4_removePaid S = some res) : J X 0 [(0, .ref (ad 24))] [] S := by
  rw [f_X4_removePaid] at hF
  refine j_aload_n h 0 rfl rfl dX4_removePaid_0 ?_
  refine j_get h hV.2.2.1.o inX4 rfl 0 (by decide) rfl q1_80 rfl dX4_removePaid_1 ?_
  refine j_iconst h (v := 1) (by decide) dX4_removePaid_4 ?_
  refine j_isub h dX4_removePaid_5 ?_
  refine j_let hF (fun x_1 hF => ?_)
  refine j_istore_n h hnL [(1, .int x_1), (0, .ref (ad 24))] rfl (by decide) rfl dX4_removePaid_6 ?_
  exact j_sub [1, 0] rfl (k_X4_removePaid_7 h hV hnL hE fuel _ _ hF)
theorem c_X4_removePaid (l : Launch) (D : va_G) (cI cZ cV : ClassId) {B : VS → va_W} {ad : Nat → Nat} (hV : IsVill cI B ad) (S : VS) {r : VS} (hF : f_X4_removePaid S = some r) : CTv l D (jtys cI cZ cV) yX4_removePaid cX4_removePaid 2 none rmX4_removePaid B [.ref (ad 24)] S r := by
  refine CTv.of [(0, .ref (ad 24))] rfl (Nat.le_of_ble_eq_true rfl) (by decide) ⟨rfl, rfl⟩ (fun X e1 e2 e3 e4 e5 e6 e7 h hE => ?_)
  subst e1; subst e2; subst e3; subst e4; subst e5; subst e6
  exact k_X4_removePaid h hV e7 hE hF
