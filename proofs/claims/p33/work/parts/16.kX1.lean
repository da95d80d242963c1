abbrev rmX1_dropOldest : Room := { frames := 0, cells := 0, slots := 0, locals := 0 }
theorem cw_X1_dropOldest : CWv RX1 yX1_dropOldest cX1_dropOldest 3 none 0 := ⟨q2_7, qs0, q1_6, q2_8, ⟨rfl, by decide +kernel, by decide +kernel, by decide +kernel⟩⟩
set_option maxHeartbeats 4000000 in
set_option maxRecDepth 100000 in
theorem k_X1_dropOldest_9 {X : JX PS} {AD : Nat → Nat → Nat} (h : OK X RX1 cX1_dropOldest rmX1_dropOldest) (hP : IsPool X.cI X.cZ X.cV X.B AD) (hnL : X.nL = 3) {res : PS} {v1 : Nat} (hE : EXv X cX1_dropOldest res) : ∀ (n : Nat) (x2 : Int32) (S : PS), f_X1_dropOldest_9 v1 n x2 S = some res → J X 9 [(0, .ref (AD 12 4)), (1, .ref (AD v1 22)), (2, .int x2)] [] S := by
  intro n
  induction n with
  | zero =>
    intro x2 S hF
    rw [f_X1_dropOldest_9] at hF
    cases hF
  | succ n ih =>
    intro x2 S hF
    rw [f_X1_dropOldest_9] at hF
    refine j_iload_n h 2 rfl rfl dX1_dropOldest_9 ?_
    refine j_bipush h (v := 7) (by decide) dX1_dropOldest_10 ?_
    refine j_icmp_ge h 35 (by decide) dX1_dropOldest_12 hF (fun hF => ?_) (fun hF => ?_)
    · refine j_aload_n h 0 rfl rfl dX1_dropOldest_35 ?_
      refine j_get h hP.2.2.2.1.o inX1 rfl 1 (by decide) rfl q1_172 rfl dX1_dropOldest_36 ?_
      refine j_bipush h (v := 7) (by decide) dX1_dropOldest_39 ?_
      refine j_aload_n h 1 rfl rfl dX1_dropOldest_41 ?_
      obtain ⟨hb_4, hF⟩ := bnd_row hF
      obtain ⟨hb_5, hF⟩ := bnd_row hF
      refine j_aast h (hP.2.2.2.2.2.2.2 v1) hb_4 rfl (hP.1 v1 (of_decide_eq_true hb_5)).2.2.2.2.1.o dX1_dropOldest_42 ?_
      refine j_letS hF (fun S_6 hF => ?_)
      refine j_aload_n h 0 rfl rfl dX1_dropOldest_43 ?_
      refine j_dup h rfl dX1_dropOldest_44 ?_
      refine j_get h hP.2.2.2.1.o inX1 rfl 0 (by decide) rfl q1_170 rfl dX1_dropOldest_45 ?_
      refine j_iconst h (v := 1) (by decide) dX1_dropOldest_48 ?_
      refine j_isub h dX1_dropOldest_49 ?_
      refine j_put h (hP.2.2.2.1) inX1 tyX1_ok nmX1 rfl (by decide) rfl q1_170 (Nat.le_of_ble_eq_true rfl) dX1_dropOldest_50 ?_
      refine j_letS hF (fun S_7 hF => ?_)
      cases hF
      exact hE _ _ dX1_dropOldest_53
    · refine j_aload_n h 0 rfl rfl dX1_dropOldest_15 ?_
      refine j_get h hP.2.2.2.1.o inX1 rfl 1 (by decide) rfl q1_172 rfl dX1_dropOldest_16 ?_
      refine j_iload_n h 2 rfl rfl dX1_dropOldest_19 ?_
      refine j_aload_n h 0 rfl rfl dX1_dropOldest_20 ?_
      refine j_get h hP.2.2.2.1.o inX1 rfl 1 (by decide) rfl q1_172 rfl dX1_dropOldest_21 ?_
      refine j_iload_n h 2 rfl rfl dX1_dropOldest_24 ?_
      refine j_iconst h (v := 1) (by decide) dX1_dropOldest_25 ?_
      refine j_iadd h dX1_dropOldest_26 ?_
      obtain ⟨hb_8, hF⟩ := bnd_row hF
      obtain ⟨hb_9, hF⟩ := bnd_row hF
      refine j_aald h hP.2.2.2.2.2.2.1 hb_8 rfl dX1_dropOldest_27 ?_
      obtain ⟨hb_10, hF⟩ := bnd_row hF
      refine j_aast h (hP.2.2.2.2.2.2.2 (S.2 (x2 + (1 : Int32)).toNatClampNeg)) hb_10 rfl (hP.1 (S.2 (x2 + (1 : Int32)).toNatClampNeg) (of_decide_eq_true hb_9)).2.2.2.2.1.o dX1_dropOldest_28 ?_
      refine j_letS hF (fun S_11 hF => ?_)
      refine j_iincL hF (fun x_12 ex_12 hF => ?_)
      refine j_iinc h hnL 2 [(2, .int x_12), (0, .ref (AD 12 4)), (1, .ref (AD v1 22))] rfl ex_12 (by decide) (by decide) rfl dX1_dropOldest_29 ?_
      refine j_goto h 9 (by decide) dX1_dropOldest_32 ?_
      exact j_sub [1, 2, 0] rfl (ih _ _ hF)
set_option maxHeartbeats 4000000 in
set_option maxRecDepth 100000 in
theorem k_X1_dropOldest {X : JX PS} {AD : Nat → Nat → Nat} (h : OK X RX1 cX1_dropOldest rmX1_dropOldest) (hP : IsPool X.cI X.cZ X.cV X.B AD) (hnL : X.nL = 3) {res : PS} {S : PS} (hE : EXv X cX1_dropOldest res) (hF : f_X1_dropOldest S = some res) : J X 0 [(0, .ref (AD 12 4))] [] S := by
  rw [f_X1_dropOldest] at hF
  refine j_aload_n h 0 rfl rfl dX1_dropOldest_0 ?_
  refine j_get h hP.2.2.2.1.o inX1 rfl 1 (by decide) rfl q1_172 rfl dX1_dropOldest_1 ?_
  refine j_iconst h (v := 0) (by decide) dX1_dropOldest_4 ?_
  obtain ⟨hb_1, hF⟩ := bnd_row hF
  obtain ⟨hb_2, hF⟩ := bnd_row hF
  refine j_aald h hP.2.2.2.2.2.2.1 hb_1 rfl dX1_dropOldest_5 ?_
  refine j_letN (AD := AD) hF (fun v_3 ev_3 hF => ?_)
  refine j_astore_n h hnL [(1, .ref (AD v_3 22)), (0, .ref (AD 12 4))] rfl (by decide) rfl dX1_dropOldest_6 ?_
  refine j_iconst h (v := 0) (by decide) dX1_dropOldest_7 ?_
  refine j_istore_n h hnL [(2, .int (0 : Int32)), (1, .ref (AD v_3 22)), (0, .ref (AD 12 4))] rfl (by decide) rfl dX1_dropOldest_8 ?_
  exact j_sub [2, 1, 0] rfl (k_X1_dropOldest_9 h hP hnL hE fuel _ _ hF)
theorem c_X1_dropOldest (l : Launch) (D : va_G) (cI cZ cV : ClassId) {B : PS → va_W} {AD : Nat → Nat → Nat} (hP : IsPool cI cZ cV B AD) (S : PS) {r : PS} (hF : f_X1_dropOldest S = some r) : CTv l D (jtys cI cZ cV) yX1_dropOldest cX1_dropOldest 3 none rmX1_dropOldest B [.ref (AD 12 4)] S r := by
  refine CTv.of [(0, .ref (AD 12 4))] rfl (Nat.le_of_ble_eq_true rfl) (by decide) ⟨rfl, rfl⟩ (fun X e1 e2 e3 e4 e5 e6 e7 h hE => ?_)
  subst e1; subst e2; subst e3; subst e4; subst e5; subst e6
  exact k_X1_dropOldest h hP e7 hE hF
abbrev rmX1_record : Room := { frames := 3, cells := 0, slots := 0, locals := 69 }
theorem cw_X1_record : CWv RX1 yX1_record cX1_record 2 none 1 := ⟨q2_2, q2_3, q1_6, q2_4, ⟨rfl, by decide +kernel, by decide +kernel, by decide +kernel⟩⟩
set_option maxHeartbeats 4000000 in
set_option maxRecDepth 100000 in
theorem k_X1_record_13 {X : JX PS} {AD : Nat → Nat → Nat} {i : Nat} (h : OK X RX1 cX1_record rmX1_record) (hP : IsPool X.cI X.cZ X.cV X.B AD) (hi : i < 12) (hnL : X.nL = 2) {res : PS} {S : PS} (hE : EXv X cX1_record res) (hF : f_X1_record_13 i S = some res) : J X 13 [(0, .ref (AD 12 4)), (1, .ref (AD i 22))] [] S := by
  rw [f_X1_record_13] at hF
  refine j_aload_n h 0 rfl rfl dX1_record_13 ?_
  refine j_get h hP.2.2.2.1.o inX1 rfl 1 (by decide) rfl q1_172 rfl dX1_record_14 ?_
  refine j_aload_n h 0 rfl rfl dX1_record_17 ?_
  refine j_get h hP.2.2.2.1.o inX1 rfl 0 (by decide) rfl q1_170 rfl dX1_record_18 ?_
  obtain ⟨hb_1, hF⟩ := bnd_row hF
  obtain ⟨hb_2, hF⟩ := bnd_row hF
  refine j_aald h hP.2.2.2.2.2.2.1 hb_1 rfl dX1_record_21 ?_
  refine j_aload_n h 1 rfl rfl dX1_record_22 ?_
  obtain ⟨r_3, hr_3, hF⟩ := bind_row hF
  refine j_callVv h (st := []) (S' := r_3) (c_X5_copy X.l X.D X.cI X.cZ X.cV hP (of_decide_eq_true hb_2) hi S hr_3) rfl rfl q2_9 cw_X5_copy (hP.1 (S.2 (S.1 12 2 4).toNatClampNeg) (of_decide_eq_true hb_2)).2.2.2.2.1.o rfl rfl rfl ⟨rfl, rfl, Nat.le_of_ble_eq_true rfl, Nat.le_of_ble_eq_true rfl⟩ _ rfl (Nat.le_of_ble_eq_true rfl) dX1_record_23 ?_
  refine j_aload_n h 0 rfl rfl dX1_record_26 ?_
  refine j_dup h rfl dX1_record_27 ?_
  refine j_get h hP.2.2.2.1.o inX1 rfl 0 (by decide) rfl q1_170 rfl dX1_record_28 ?_
  refine j_iconst h (v := 1) (by decide) dX1_record_31 ?_
  refine j_iadd h dX1_record_32 ?_
  refine j_put h (hP.2.2.2.1) inX1 tyX1_ok nmX1 rfl (by decide) rfl q1_170 (Nat.le_of_ble_eq_true rfl) dX1_record_33 ?_
  refine j_letS hF (fun S_4 hF => ?_)
  cases hF
  exact hE _ _ dX1_record_36
set_option maxHeartbeats 4000000 in
set_option maxRecDepth 100000 in
theorem k_X1_record {X : JX PS} {AD : Nat → Nat → Nat} {i : Nat} (h : OK X RX1 cX1_record rmX1_record) (hP : IsPool X.cI X.cZ X.cV X.B AD) (hi : i < 12) (hnL : X.nL = 2) {res : PS} {S : PS} (hE : EXv X cX1_record res) (hF : f_X1_record i S = some res) : J X 0 [(0, .ref (AD 12 4)), (1, .ref (AD i 22))] [] S := by
  rw [f_X1_record] at hF
  refine j_aload_n h 0 rfl rfl dX1_record_0 ?_
  refine j_get h hP.2.2.2.1.o inX1 rfl 0 (by decide) rfl q1_170 rfl dX1_record_1 ?_
  refine j_bipush h (v := 8) (by decide) dX1_record_4 ?_
  refine j_icmp_lt h 13 (by decide) dX1_record_6 hF (fun hF => ?_) (fun hF => ?_)
  · exact j_sub [0, 1] rfl (k_X1_record_13 h hP hi hnL hE hF)
  · refine j_aload_n h 0 rfl rfl dX1_record_9 ?_
    obtain ⟨r_5, hr_5, hF⟩ := bind_row hF
    refine j_callVv h (st := []) (S' := r_5) (c_X1_dropOldest X.l X.D X.cI X.cZ X.cV hP S hr_5) rfl rfl q2_5 cw_X1_dropOldest hP.2.2.2.1.o rfl rfl rfl ⟨rfl, rfl, Nat.le_of_ble_eq_true rfl, Nat.le_of_ble_eq_true rfl⟩ _ rfl (Nat.le_of_ble_eq_true rfl) dX1_record_10 ?_
    exact j_sub [0, 1] rfl (k_X1_record_13 h hP hi hnL hE hF)
theorem c_X1_record (l : Launch) (D : va_G) (cI cZ cV : ClassId) {B : PS → va_W} {AD : Nat → Nat → Nat} (hP : IsPool cI cZ cV B AD) {i : Nat} (hi : i < 12) (S : PS) {r : PS} (hF : f_X1_record i S = some r) : CTv l D (jtys cI cZ cV) yX1_record cX1_record 2 none rmX1_record B [.ref (AD 12 4), .ref (AD i 22)] S r := by
  refine CTv.of [(0, .ref (AD 12 4)), (1, .ref (AD i 22))] rfl (Nat.le_of_ble_eq_true rfl) (by decide) ⟨rfl, rfl⟩ (fun X e1 e2 e3 e4 e5 e6 e7 h hE => ?_)
  subst e1; subst e2; subst e3; subst e4; subst e5; subst e6
  exact k_X1_record h hP hi e7 hE hF
